/-! SOUNDNESS of the simple instructions. -/
def tyL (cA : Nat → ClassId) : List (ClassId × FieldType) := [(cA 0, .int), (cA 1, .long), (cA 2, .byte), (cA 3, .boolean), (cA 4, .object "FewEnds$Tray"), (cA 5, .object "FewEnds$Mark")]
def slenl (k : Nat) : Nat := (strb.getD k []).length
/-- the JDK's constants: the strings, the statics -/
def PSs (adK adV : Nat → Nat) (A : Nat → Prop) (U : State) (H : Heap) : Prop :=
  (∀ i : Nat, i < 21 → va_O "java/lang/String" (adK i) A U H ∧ va_OF "java/lang/String" "coder" "B" (.int 0) (adK i) A U H ∧ va_OF "java/lang/String" "value" "[B" (.ref (adV i)) (adK i) A U H ∧ va_T .byte (adV i) (slenl i) (fun j => .int (Int32.ofInt ((strb.getD i []).getD j 0))) A U H)
  ∧ va_Z "java/lang/String" "COMPACT_STRINGS" "Z" (.int 1) A U H ∧ va_Zq "jdk/internal/util/Preconditions" "SIOOBE_FORMATTER" "Ljava/util/function/BiFunction;" A U H
def PRs (adK : Nat → Nat) (U : State) : Prop := (∀ i : Nat, i < 21 → vk_R (strl.getD i ("", 0, "")).1 (strl.getD i ("", 0, "")).2.1 (strl.getD i ("", 0, "")).2.2 (adK i) U) ∧ va_AO "FewEnds$Tray" U ∧ va_AO "FewEnds$Mark" U
theorem PSs.moved {adK adV : Nat → Nat} {A : Nat → Prop} {u U : State} {H : Heap} (hvm : u.vm.Alike U.vm) (h : PSs adK adV A u H) : PSs adK adV A U H :=
  ⟨fun i hi => ⟨va_O.moved hvm (h.1 i hi).1, va_OF.moved hvm (h.1 i hi).2.1, va_OF.moved hvm (h.1 i hi).2.2.1, va_T.moved hvm (h.1 i hi).2.2.2⟩, va_Z.moved hvm h.2.1, va_Zq.moved hvm h.2.2⟩
theorem PSs.kept {adK adV : Nat → Nat} {A : Nat → Prop} {U : State} {H H1 : Heap} (h : PSs adK adV A U H) (hq : ∀ a : Nat, a < H.size → ¬ A a → H1[a]? = H[a]?) : PSs adK adV A U H1 :=
  ⟨fun i hi => ⟨(h.1 i hi).1.kept hq, (h.1 i hi).2.1.kept hq, (h.1 i hi).2.2.1.kept hq, (h.1 i hi).2.2.2.kept hq⟩, h.2.1.kept hq, h.2.2.kept hq⟩
theorem PSs.narrow {adK adV : Nat → Nat} {A B : Nat → Prop} {U : State} {H : Heap} (h : PSs adK adV A U H) (hAB : ∀ q, B q → A q) : PSs adK adV B U H :=
  ⟨fun i hi => ⟨(h.1 i hi).1.narrow hAB, (h.1 i hi).2.1.narrow hAB, (h.1 i hi).2.2.1.narrow hAB, (h.1 i hi).2.2.2.narrow hAB⟩, h.2.1.narrow hAB, h.2.2.narrow hAB⟩
theorem PRs.warm {adK : Nat → Nat} {s U : State} (hW : s.WarmedH U.vm) (h : PRs adK s) : PRs adK U := ⟨fun i hi => (h.1 i hi).warm hW, h.2.1.moved hW.alike, h.2.2.moved hW.alike⟩
/-- what holds in a method's frame: its own facts, the tables' words, the world's, the constants', the script's, the room -/
def Cx (X : Int → Int) (SC : Prop) (y : Nat) (p : Program) (R : Room) (s : State) (m : MethodId) (args : Array Value) (meth : Method) (c : Code) (D : va_G) (cA : Nat → ClassId) (adK adV : Nat → Nat) (A : Nat → Prop) : Prop :=
  p.tables.exec = Jvm.exec ∧ c.code = (mT y).2.1 ∧ meth.sig.returnType = (mT y).2.2.2 ∧ c.maxLocals = (mT y).2.2.1 ∧ s.vm.findClass (cid (mcl y)) = some m.cls ∧ (∀ w ∈ lwG, w.before args s = true) ∧ meth.locks = false ∧ ((mT y).1.name = "<init>" → meth.name = "<init>")
  ∧ va_K D kcl (tyL cA) s ∧ (∀ q, s.heap.size ≤ q → A q) ∧ PSs adK adV A s s.heap ∧ PRs adK s
  ∧ (SC → ∃ (L : Nat) (xs : Nat → Int32), va_X (adK 1000) L xs s s.heap ∧ adK 1000 < s.heap.size ∧ ¬ A (adK 1000) ∧ L ≤ 1000000 ∧ X (-1) = (L : Int) ∧ ∀ j : Nat, j < L → X j = (xs j).toInt)
  ∧ mdep y ≤ R.frames ∧ 30 * mdep y ≤ R.locals ∧ mcl y < 16
/-- from every machine state that holds the pure one the rest goes well -/
def GG (X : Int → Int) (SC : Prop) (y : Nat) (p : Program) (l : Launch) (e : Env) (R : Room) (s : State) (m : MethodId) (args : Array Value) (below : List Frame) (meth : Method) (c : Code) (D : va_G) (cA : Nat → ClassId) (adK adV : Nat → Nat) (A : Nat → Prop) (Q : State → Prop) (ad : Nat → Nat) (cells slots pc : Nat) (ls : PLS) (st : List PV) (Sh : List SE) (M : Mem) : Prop :=
  ∀ (H : Heap) (locs : List Loc) (lsA : Array Slot), va_P D kcl (wd cA ad Sh M) H → va_D A (wd cA ad Sh M) → va_S A s.heap H locs → lv_has lsA (mT y).2.2.1 (LV ad adK ls) → W p l e R s m args below meth c H locs cells slots Q (F0 m pc lsA (st.map (trv ad adK)))
section STEP
variable {X : Int → Int} {SC : Prop} {y : Nat} {p : Program} {l : Launch} {e : Env} {R : Room} {s : State} {m : MethodId} {args : Array Value} {below : List Frame} {meth : Method} {c : Code} {D : va_G} {cA : Nat → ClassId} {adK adV : Nat → Nat} {A : Nat → Prop} {Q : State → Prop}
variable {ad : Nat → Nat} {cells slots pc ln : Nat} {ls : PLS} {st : List PV} {Sh : List SE} {M : Mem} {raw : Instr}
theorem any_eq {α : Type} {f : α → Bool} {l : List α} (h : l.any f = true) : ∃ q ∈ l, f q = true := List.any_eq_true.mp h
/-! tables -/
theorem tb_in {i : Nat} {w : Jvm.Cond} (h : tables_1[i]? = some w) (g : goodWord w = true) : w ∈ lwG := lwG_of (lw_of1 (List.mem_of_getElem? h)) g
theorem ctb_in {o n : Nat} {v : Int} (ho : o < 16) (h : (ctb o).any (fun q => decide (q.1 = n) && decide (q.2.1 = v)) = true) : (-2147483648 ≤ v ∧ v < 2147483648) ∧ Cond.constant (cid o) n (Int32.ofInt v) ∈ lwG := by
  obtain ⟨q, hq, h2⟩ := any_eq h
  simp only [Bool.and_eq_true, decide_eq_true_eq] at h2
  have h3 := List.all_eq_true.mp (List.all_eq_true.mp ctb_ok o (List.mem_range.mpr ho)) q hq
  simp only [Bool.and_eq_true, decide_eq_true_eq] at h3
  obtain ⟨rfl, rfl⟩ := h2
  exact ⟨h3.1, tb_in h3.2 rfl⟩
theorem ltb_in {o n : Nat} {v : Int} (ho : o < 16) (h : (ltb o).any (fun q => decide (q.1 = n) && decide (q.2.1 = v)) = true) : (-9223372036854775808 ≤ v ∧ v < 9223372036854775808) ∧ Cond.constantLong (cid o) n (Int64.ofInt v) ∈ lwG := by
  obtain ⟨q, hq, h2⟩ := any_eq h
  simp only [Bool.and_eq_true, decide_eq_true_eq] at h2
  have h3 := List.all_eq_true.mp (List.all_eq_true.mp ltb_ok o (List.mem_range.mpr ho)) q hq
  simp only [Bool.and_eq_true, decide_eq_true_eq] at h3
  obtain ⟨rfl, rfl⟩ := h2
  exact ⟨h3.1, tb_in h3.2 rfl⟩
theorem mtb_in {o n k : Nat} (ho : o < 16) (h : (mtb o).any (fun q => decide (q.1 = n) && decide (q.2.1 = k)) = true) : k < 365 ∧ Cond.methodLink (cid o) n (mT k).1 ∈ lwG := by
  obtain ⟨q, hq, h2⟩ := any_eq h
  simp only [Bool.and_eq_true, decide_eq_true_eq] at h2
  have h3 := List.all_eq_true.mp (List.all_eq_true.mp mtb_ok o (List.mem_range.mpr ho)) q hq
  simp only [Bool.and_eq_true, decide_eq_true_eq] at h3
  obtain ⟨rfl, rfl⟩ := h2
  exact ⟨h3.1, tb_in h3.2 rfl⟩
theorem itb_in {o n k : Nat} (ho : o < 16) (h : (itb o).any (fun q => decide (q.1 = n) && decide (q.2.1 = k)) = true) : Cond.methodLink (cid o) n (inm k) ∈ lwG := by
  obtain ⟨q, hq, h2⟩ := any_eq h
  simp only [Bool.and_eq_true, decide_eq_true_eq] at h2
  have h3 := List.all_eq_true.mp (List.all_eq_true.mp itb_ok o (List.mem_range.mpr ho)) q hq
  simp only [decide_eq_true_eq] at h3
  obtain ⟨rfl, rfl⟩ := h2
  exact tb_in h3 rfl
theorem ktb_in {o n k : Nat} (ho : o < 16) (h : (ktb o).any (fun q => decide (q.1 = n) && decide (q.2.1 = k)) = true) : k < 13 ∧ Cond.classLink (cid o) n (cid k) ∈ lwG := by
  obtain ⟨q, hq, h2⟩ := any_eq h
  simp only [Bool.and_eq_true, decide_eq_true_eq] at h2
  have h3 := List.all_eq_true.mp (List.all_eq_true.mp ktb_ok o (List.mem_range.mpr ho)) q hq
  simp only [Bool.and_eq_true, decide_eq_true_eq] at h3
  obtain ⟨rfl, rfl⟩ := h2
  exact ⟨h3.1, tb_in h3.2 rfl⟩
theorem ftb_in {o j n : Nat} (ho : o < 16) (h : (ftb o).any (fun q => decide (q.1 = j) && decide (q.2.1 = n)) = true) : n / 64 < 13 ∧ n % 64 < cN (n / 64) ∧ Cond.fieldLink (cid o) j (cid (n / 64)) (fname n) (fdesc n) ∈ lwG := by
  obtain ⟨q, hq, h2⟩ := any_eq h
  simp only [Bool.and_eq_true, decide_eq_true_eq] at h2
  have h3 := List.all_eq_true.mp (List.all_eq_true.mp ftb_ok o (List.mem_range.mpr ho)) q hq
  simp only [Bool.and_eq_true, decide_eq_true_eq] at h3
  obtain ⟨rfl, rfl⟩ := h2
  exact ⟨h3.1.1, h3.1.2, tb_in h3.2 rfl⟩
/-- the table of a class -/
def kT (ci : Nat) : u_T := (kcl.getD ci ("", kT0, 0)).2.1
theorem kcl_len : kcl.length = 13 := rfl
theorem kcl_at {ci : Nat} (h : ci < 13) : kcl[ci]? = some (cid ci, kT ci, cN ci) := by
  have h1 := List.all_eq_true.mp kcl_inst ci (List.mem_range.mpr h)
  simp only [Bool.and_eq_true, decide_eq_true_eq] at h1
  have h2 : kcl[ci]? = some (kcl.getD ci ("", kT0, 0)) := by
    rw [List.getD_eq_getElem?_getD, List.getElem?_eq_getElem (by rw [kcl_len]; exact h)]
    rfl
  rw [h2]
  exact congrArg some (Prod.ext h1.2 rfl)
theorem kcl_words {ci : Nat} (h : ci < 13) : ∀ w ∈ u_ws (cid ci) (kT ci) (cN ci), w ∈ lwG := by
  have h1 := List.all_eq_true.mp kcl_in ci (List.mem_range.mpr h)
  have h2 := List.all_eq_true.mp kcl_inst ci (List.mem_range.mpr h)
  simp only [Bool.and_eq_true, decide_eq_true_eq] at h2
  intro w hw
  rw [← h2.2] at hw
  have h3 := List.all_eq_true.mp h1 w hw
  simp only [Bool.and_eq_true, decide_eq_true_eq] at h3
  exact lwG_of h3.1 h3.2
theorem kcl_desc {ci : Nat} (h : ci < 13) : ∀ k, k < cN ci → parseFieldDescriptor (kT ci k).2.2.1 = some (cty ci k) ∧ (kT ci k).1 = cid ci := fun k hk => by
  have h1 := List.all_eq_true.mp (List.all_eq_true.mp kcl_ty ci (List.mem_range.mpr h)) k (List.mem_range.mpr hk)
  simp only [Bool.and_eq_true, decide_eq_true_eq] at h1
  exact h1
theorem kcl_names {ci : Nat} (h : ci < 13) : ∀ a, a < cN ci → ∀ b, b < cN ci → a ≠ b → (kT ci a).2.1 ≠ (kT ci b).2.1 := fun a ha b hb hn => by
  have h1 := List.all_eq_true.mp (List.all_eq_true.mp (List.all_eq_true.mp kcl_nm ci (List.mem_range.mpr h)) a (List.mem_range.mpr ha)) b (List.mem_range.mpr hb)
  simp only [Bool.or_eq_true, beq_iff_eq, decide_eq_true_eq] at h1
  exact h1.resolve_left hn
theorem kcl_words2 {ci : Nat} (h : ci < 13) : Cond.instantiable (cid ci) (cN ci) ∈ lwG ∧ Cond.initialized (cid ci) ∈ lwG := by
  have h2 := List.all_eq_true.mp kcl_inst ci (List.mem_range.mpr h)
  simp only [Bool.and_eq_true, decide_eq_true_eq] at h2
  exact ⟨lwG_of h2.1.1 rfl, lwG_of h2.1.2 rfl⟩
/-- what an instruction needs to know beside the machine -/
def C0 (X : Int → Int) (SC : Prop) (y : Nat) : Prop := mcl y < 16 ∧ (SC → (∃ L : Nat, L ≤ 1000000 ∧ X (-1) = (L : Int)) ∧ ∀ j, 0 ≤ j → j < X (-1) → -2147483648 ≤ X j ∧ X j < 2147483648)
/-- what a simple instruction owes -/
def SOK (X : Int → Int) (SC : Prop) (y pc ln : Nat) (ls : PLS) (st : List PV) (Sh : List SE) (M : Mem) (q : PST) : Prop :=
  (okL SC q.2.2.1.length q.1 ∧ okS SC q.2.2.1.length q.2.1 ∧ okSh q.2.2.1 ∧ okM q.2.2.1 q.2.2.2 ∧ q.1.length = ls.length ∧ Sh.length ≤ q.2.2.1.length ∧ ssz Sh ≤ ssz q.2.2.1)
  ∧ ∀ (p : Program) (l : Launch) (e : Env) (R : Room) (s : State) (m : MethodId) (args : Array Value) (below : List Frame) (meth : Method) (c : Code) (D : va_G) (cA : Nat → ClassId) (adK adV : Nat → Nat) (A : Nat → Prop) (Q : State → Prop) (ad : Nat → Nat) (cells slots : Nat), Cx X SC y p R s m args meth c D cA adK adV A → cells + (q.2.2.1.length - Sh.length) ≤ R.cells → slots + (ssz q.2.2.1 - ssz Sh) ≤ R.slots → (∀ ad' : Nat → Nat, (∀ i, i < Sh.length → ad' i = ad i) → GG X SC y p l e R s m args below meth c D cA adK adV A Q ad' (cells + (q.2.2.1.length - Sh.length)) (slots + (ssz q.2.2.1 - ssz Sh)) (pc + ln) q.1 q.2.1 q.2.2.1 q.2.2.2) → GG X SC y p l e R s m args below meth c D cA adK adV A Q ad cells slots pc ls st Sh M
/-- the shapes stay -/
theorem sok_same {ls' : PLS} {st' : List PV} {M' : Mem} (h1 : okL SC Sh.length ls') (h2 : okS SC Sh.length st') (h3 : okSh Sh) (h4 : okM Sh M') (h5 : ls'.length = ls.length)
    (h : ∀ (p : Program) (l : Launch) (e : Env) (R : Room) (s : State) (m : MethodId) (args : Array Value) (below : List Frame) (meth : Method) (c : Code) (D : va_G) (cA : Nat → ClassId) (adK adV : Nat → Nat) (A : Nat → Prop) (Q : State → Prop) (ad : Nat → Nat) (cells slots : Nat), Cx X SC y p R s m args meth c D cA adK adV A → GG X SC y p l e R s m args below meth c D cA adK adV A Q ad cells slots (pc + ln) ls' st' Sh M' → GG X SC y p l e R s m args below meth c D cA adK adV A Q ad cells slots pc ls st Sh M) : SOK X SC y pc ln ls st Sh M (ls', st', Sh, M') :=
  ⟨⟨h1, h2, h3, h4, h5, Nat.le_refl _, Nat.le_refl _⟩, fun p l e R s m args below meth c D cA adK adV A Q ad cells slots C _ _ k => h p l e R s m args below meth c D cA adK adV A Q ad cells slots C (by have k1 := k ad (fun _ _ => rfl); simp only [Nat.sub_self, Nat.add_zero] at k1; exact k1)⟩
theorem ln_of {r : Instr} {n : Nat} (hz : (isz raw == 0 || isz raw == ln) = true) (hr : raw = r) (hn : isz r = n) (h0 : n ≠ 0) : ln = n := by
  subst hr
  rw [hn] at hz
  simp only [Bool.or_eq_true, beq_iff_eq] at hz
  rcases hz with h | h
  · exact absurd h h0
  · exact h.symm
theorem cat1I {z : Int} : (trv ad adK (vI z)).category = 1 := rfl
theorem cat1R {q : Option Nat ⊕ Nat} : (trv ad adK (.inr (.inr q))).category = 1 := by
  rcases q with q | k
  · cases q <;> rfl
  · rfl
set_option maxHeartbeats 2000000 in
theorem s_iadd {q : PST} (C : C0 X SC y) (hd : decode (mT y).2.1 pc = .ok (raw, ln)) (hz : (isz raw == 0 || isz raw == ln) = true) (hl : okL SC Sh.length ls) (hst : okS SC Sh.length st) (hSh : okSh Sh) (hM : okM Sh M) (hc : chkI y raw (.iadd) pc = true) (hs : stp X (.iadd) ls st Sh M = some q) : SOK X SC y pc ln ls st Sh M q := by
  have hraw : raw = .iadd := of_decide_eq_true hc
  obtain rfl := ln_of hz hraw (n := 1) rfl (by decide)
  subst hraw
  obtain ⟨hcl, hX0⟩ := C
  simp only [stp] at hs
  split at hs
  · rename_i b a st
    cases hs
    refine sok_same hl (okS.cons (w32_rng _) hst.tl.tl) hSh hM rfl fun p l e R s m args below meth c D cA adK adV A Q ad cells slots C k H locs lsA hP hD hS hv => ?_
    obtain ⟨hx, hb, hr, hml, hown, hts, hlk, hin, hK, hA, hPS, hPR, hSC, hRf, hRl, -⟩ := C
    have k1 := k H locs lsA hP hD hS hv
    refine lv_iadd hx hb hd ?_
    have e1 : Int32.ofInt (w32 (a + b)) = Int32.ofInt a + Int32.ofInt b := (n_w32 _).trans (Int32.ofInt_add _ _)
    rw [← e1]
    exact k1
  · cases hs
set_option maxHeartbeats 2000000 in
theorem s_isub {q : PST} (C : C0 X SC y) (hd : decode (mT y).2.1 pc = .ok (raw, ln)) (hz : (isz raw == 0 || isz raw == ln) = true) (hl : okL SC Sh.length ls) (hst : okS SC Sh.length st) (hSh : okSh Sh) (hM : okM Sh M) (hc : chkI y raw (.isub) pc = true) (hs : stp X (.isub) ls st Sh M = some q) : SOK X SC y pc ln ls st Sh M q := by
  have hraw : raw = .isub := of_decide_eq_true hc
  obtain rfl := ln_of hz hraw (n := 1) rfl (by decide)
  subst hraw
  obtain ⟨hcl, hX0⟩ := C
  simp only [stp] at hs
  split at hs
  · rename_i b a st
    cases hs
    refine sok_same hl (okS.cons (w32_rng _) hst.tl.tl) hSh hM rfl fun p l e R s m args below meth c D cA adK adV A Q ad cells slots C k H locs lsA hP hD hS hv => ?_
    obtain ⟨hx, hb, hr, hml, hown, hts, hlk, hin, hK, hA, hPS, hPR, hSC, hRf, hRl, -⟩ := C
    have k1 := k H locs lsA hP hD hS hv
    refine lv_isub hx hb hd ?_
    have e1 : Int32.ofInt (w32 (a - b)) = Int32.ofInt a - Int32.ofInt b := (n_w32 _).trans (Int32.ofInt_sub _ _)
    rw [← e1]
    exact k1
  · cases hs
set_option maxHeartbeats 2000000 in
theorem s_imul {q : PST} (C : C0 X SC y) (hd : decode (mT y).2.1 pc = .ok (raw, ln)) (hz : (isz raw == 0 || isz raw == ln) = true) (hl : okL SC Sh.length ls) (hst : okS SC Sh.length st) (hSh : okSh Sh) (hM : okM Sh M) (hc : chkI y raw (.imul) pc = true) (hs : stp X (.imul) ls st Sh M = some q) : SOK X SC y pc ln ls st Sh M q := by
  have hraw : raw = .imul := of_decide_eq_true hc
  obtain rfl := ln_of hz hraw (n := 1) rfl (by decide)
  subst hraw
  obtain ⟨hcl, hX0⟩ := C
  simp only [stp] at hs
  split at hs
  · rename_i b a st
    cases hs
    refine sok_same hl (okS.cons (w32_rng _) hst.tl.tl) hSh hM rfl fun p l e R s m args below meth c D cA adK adV A Q ad cells slots C k H locs lsA hP hD hS hv => ?_
    obtain ⟨hx, hb, hr, hml, hown, hts, hlk, hin, hK, hA, hPS, hPR, hSC, hRf, hRl, -⟩ := C
    have k1 := k H locs lsA hP hD hS hv
    refine lv_imul hx hb hd ?_
    have e1 : Int32.ofInt (w32 (a * b)) = Int32.ofInt a * Int32.ofInt b := (n_w32 _).trans (Int32.ofInt_mul _ _)
    rw [← e1]
    exact k1
  · cases hs
set_option maxHeartbeats 2000000 in
theorem s_iand {q : PST} (C : C0 X SC y) (hd : decode (mT y).2.1 pc = .ok (raw, ln)) (hz : (isz raw == 0 || isz raw == ln) = true) (hl : okL SC Sh.length ls) (hst : okS SC Sh.length st) (hSh : okSh Sh) (hM : okM Sh M) (hc : chkI y raw (.iand) pc = true) (hs : stp X (.iand) ls st Sh M = some q) : SOK X SC y pc ln ls st Sh M q := by
  have hraw : raw = .iand := of_decide_eq_true hc
  obtain rfl := ln_of hz hraw (n := 1) rfl (by decide)
  subst hraw
  obtain ⟨hcl, hX0⟩ := C
  simp only [stp] at hs
  split at hs
  · rename_i b a st
    cases hs
    refine sok_same hl (okS.cons (n_rng _) hst.tl.tl) hSh hM rfl fun p l e R s m args below meth c D cA adK adV A Q ad cells slots C k H locs lsA hP hD hS hv => ?_
    obtain ⟨hx, hb, hr, hml, hown, hts, hlk, hin, hK, hA, hPS, hPR, hSC, hRf, hRl, -⟩ := C
    have k1 := k H locs lsA hP hD hS hv
    refine lv_iand hx hb hd ?_
    have e1 : Int32.ofInt (i_and a b) = Int32.ofInt a &&& Int32.ofInt b := n_to _
    rw [← e1]
    exact k1
  · cases hs
set_option maxHeartbeats 2000000 in
theorem s_ior {q : PST} (C : C0 X SC y) (hd : decode (mT y).2.1 pc = .ok (raw, ln)) (hz : (isz raw == 0 || isz raw == ln) = true) (hl : okL SC Sh.length ls) (hst : okS SC Sh.length st) (hSh : okSh Sh) (hM : okM Sh M) (hc : chkI y raw (.ior) pc = true) (hs : stp X (.ior) ls st Sh M = some q) : SOK X SC y pc ln ls st Sh M q := by
  have hraw : raw = .ior := of_decide_eq_true hc
  obtain rfl := ln_of hz hraw (n := 1) rfl (by decide)
  subst hraw
  obtain ⟨hcl, hX0⟩ := C
  simp only [stp] at hs
  split at hs
  · rename_i b a st
    cases hs
    refine sok_same hl (okS.cons (n_rng _) hst.tl.tl) hSh hM rfl fun p l e R s m args below meth c D cA adK adV A Q ad cells slots C k H locs lsA hP hD hS hv => ?_
    obtain ⟨hx, hb, hr, hml, hown, hts, hlk, hin, hK, hA, hPS, hPR, hSC, hRf, hRl, -⟩ := C
    have k1 := k H locs lsA hP hD hS hv
    refine lv_ior hx hb hd ?_
    have e1 : Int32.ofInt (i_or a b) = Int32.ofInt a ||| Int32.ofInt b := n_to _
    rw [← e1]
    exact k1
  · cases hs
set_option maxHeartbeats 2000000 in
theorem s_ishl {q : PST} (C : C0 X SC y) (hd : decode (mT y).2.1 pc = .ok (raw, ln)) (hz : (isz raw == 0 || isz raw == ln) = true) (hl : okL SC Sh.length ls) (hst : okS SC Sh.length st) (hSh : okSh Sh) (hM : okM Sh M) (hc : chkI y raw (.ishl) pc = true) (hs : stp X (.ishl) ls st Sh M = some q) : SOK X SC y pc ln ls st Sh M q := by
  have hraw : raw = .ishl := of_decide_eq_true hc
  obtain rfl := ln_of hz hraw (n := 1) rfl (by decide)
  subst hraw
  obtain ⟨hcl, hX0⟩ := C
  simp only [stp] at hs
  split at hs
  · rename_i b a st
    cases hs
    refine sok_same hl (okS.cons (n_rng _) hst.tl.tl) hSh hM rfl fun p l e R s m args below meth c D cA adK adV A Q ad cells slots C k H locs lsA hP hD hS hv => ?_
    obtain ⟨hx, hb, hr, hml, hown, hts, hlk, hin, hK, hA, hPS, hPR, hSC, hRf, hRl, -⟩ := C
    have k1 := k H locs lsA hP hD hS hv
    refine lv_ishl hx hb hd ?_
    have e1 : Int32.ofInt (i_shl a b) = Int32.ofInt a <<< (Int32.ofInt b &&& 31) := n_to _
    rw [← e1]
    exact k1
  · cases hs
set_option maxHeartbeats 2000000 in
theorem s_ishr {q : PST} (C : C0 X SC y) (hd : decode (mT y).2.1 pc = .ok (raw, ln)) (hz : (isz raw == 0 || isz raw == ln) = true) (hl : okL SC Sh.length ls) (hst : okS SC Sh.length st) (hSh : okSh Sh) (hM : okM Sh M) (hc : chkI y raw (.ishr) pc = true) (hs : stp X (.ishr) ls st Sh M = some q) : SOK X SC y pc ln ls st Sh M q := by
  have hraw : raw = .ishr := of_decide_eq_true hc
  obtain rfl := ln_of hz hraw (n := 1) rfl (by decide)
  subst hraw
  obtain ⟨hcl, hX0⟩ := C
  simp only [stp] at hs
  split at hs
  · rename_i b a st
    cases hs
    refine sok_same hl (okS.cons (n_rng _) hst.tl.tl) hSh hM rfl fun p l e R s m args below meth c D cA adK adV A Q ad cells slots C k H locs lsA hP hD hS hv => ?_
    obtain ⟨hx, hb, hr, hml, hown, hts, hlk, hin, hK, hA, hPS, hPR, hSC, hRf, hRl, -⟩ := C
    have k1 := k H locs lsA hP hD hS hv
    refine lv_ishr hx hb hd ?_
    have e1 : Int32.ofInt (i_shr a b) = Int32.ofInt a >>> (Int32.ofInt b &&& 31) := n_to _
    rw [← e1]
    exact k1
  · cases hs
set_option maxHeartbeats 2000000 in
theorem s_ineg {q : PST} (C : C0 X SC y) (hd : decode (mT y).2.1 pc = .ok (raw, ln)) (hz : (isz raw == 0 || isz raw == ln) = true) (hl : okL SC Sh.length ls) (hst : okS SC Sh.length st) (hSh : okSh Sh) (hM : okM Sh M) (hc : chkI y raw (.ineg) pc = true) (hs : stp X (.ineg) ls st Sh M = some q) : SOK X SC y pc ln ls st Sh M q := by
  have hraw : raw = .ineg := of_decide_eq_true hc
  obtain rfl := ln_of hz hraw (n := 1) rfl (by decide)
  subst hraw
  obtain ⟨hcl, hX0⟩ := C
  simp only [stp] at hs
  split at hs
  · rename_i a st
    cases hs
    refine sok_same hl (okS.cons (w32_rng _) hst.tl) hSh hM rfl fun p l e R s m args below meth c D cA adK adV A Q ad cells slots C k H locs lsA hP hD hS hv => ?_
    obtain ⟨hx, hb, hr, hml, hown, hts, hlk, hin, hK, hA, hPS, hPR, hSC, hRf, hRl, -⟩ := C
    have k1 := k H locs lsA hP hD hS hv
    refine lv_ineg hx hb hd ?_
    have e1 : Int32.ofInt (w32 (-a)) = -Int32.ofInt a := (n_w32 _).trans (Int32.ofInt_neg _)
    rw [← e1]
    exact k1
  · cases hs
set_option maxHeartbeats 2000000 in
theorem s_idiv {q : PST} (C : C0 X SC y) (hd : decode (mT y).2.1 pc = .ok (raw, ln)) (hz : (isz raw == 0 || isz raw == ln) = true) (hl : okL SC Sh.length ls) (hst : okS SC Sh.length st) (hSh : okSh Sh) (hM : okM Sh M) (hc : chkI y raw (.idiv) pc = true) (hs : stp X (.idiv) ls st Sh M = some q) : SOK X SC y pc ln ls st Sh M q := by
  have hraw : raw = .idiv := of_decide_eq_true hc
  obtain rfl := ln_of hz hraw (n := 1) rfl (by decide)
  subst hraw
  obtain ⟨hcl, hX0⟩ := C
  simp only [stp] at hs
  split at hs
  · rename_i b a st
    split at hs
    · cases hs
    · rename_i hb0
      cases hs
      refine sok_same hl (okS.cons (n_rng _) hst.tl.tl) hSh hM rfl fun p l e R s m args below meth c D cA adK adV A Q ad cells slots C k H locs lsA hP hD hS hv => ?_
      obtain ⟨hx, hb, hr, hml, hown, hts, hlk, hin, hK, hA, hPS, hPR, hSC, hRf, hRl, -⟩ := C
      have k1 := k H locs lsA hP hD hS hv
      refine lv_idiv hx hb hd (fun h => hb0 ((n_eq hst.hd (by omega)).mp (h.trans n_0.symm))) ?_
      have e1 : Int32.ofInt (i_div a b) = Int32.ofInt a / Int32.ofInt b := n_to _
      rw [← e1]
      exact k1
  · cases hs
set_option maxHeartbeats 2000000 in
theorem s_irem {q : PST} (C : C0 X SC y) (hd : decode (mT y).2.1 pc = .ok (raw, ln)) (hz : (isz raw == 0 || isz raw == ln) = true) (hl : okL SC Sh.length ls) (hst : okS SC Sh.length st) (hSh : okSh Sh) (hM : okM Sh M) (hc : chkI y raw (.irem) pc = true) (hs : stp X (.irem) ls st Sh M = some q) : SOK X SC y pc ln ls st Sh M q := by
  have hraw : raw = .irem := of_decide_eq_true hc
  obtain rfl := ln_of hz hraw (n := 1) rfl (by decide)
  subst hraw
  obtain ⟨hcl, hX0⟩ := C
  simp only [stp] at hs
  split at hs
  · rename_i b a st
    split at hs
    · cases hs
    · rename_i hb0
      cases hs
      refine sok_same hl (okS.cons (n_rng _) hst.tl.tl) hSh hM rfl fun p l e R s m args below meth c D cA adK adV A Q ad cells slots C k H locs lsA hP hD hS hv => ?_
      obtain ⟨hx, hb, hr, hml, hown, hts, hlk, hin, hK, hA, hPS, hPR, hSC, hRf, hRl, -⟩ := C
      have k1 := k H locs lsA hP hD hS hv
      refine lv_irem hx hb hd (fun h => hb0 ((n_eq hst.hd (by omega)).mp (h.trans n_0.symm))) ?_
      have e1 : Int32.ofInt (i_rem a b) = Int32.ofInt a - Int32.ofInt a / Int32.ofInt b * Int32.ofInt b := n_to _
      rw [← e1]
      exact k1
  · cases hs
set_option maxHeartbeats 2000000 in
theorem s_ladd {q : PST} (C : C0 X SC y) (hd : decode (mT y).2.1 pc = .ok (raw, ln)) (hz : (isz raw == 0 || isz raw == ln) = true) (hl : okL SC Sh.length ls) (hst : okS SC Sh.length st) (hSh : okSh Sh) (hM : okM Sh M) (hc : chkI y raw (.ladd) pc = true) (hs : stp X (.ladd) ls st Sh M = some q) : SOK X SC y pc ln ls st Sh M q := by
  have hraw : raw = .ladd := of_decide_eq_true hc
  obtain rfl := ln_of hz hraw (n := 1) rfl (by decide)
  subst hraw
  obtain ⟨hcl, hX0⟩ := C
  simp only [stp] at hs
  split at hs
  · rename_i b a st
    cases hs
    refine sok_same hl (okS.cons (w64_rng _) hst.tl.tl) hSh hM rfl fun p l e R s m args below meth c D cA adK adV A Q ad cells slots C k H locs lsA hP hD hS hv => ?_
    obtain ⟨hx, hb, hr, hml, hown, hts, hlk, hin, hK, hA, hPS, hPR, hSC, hRf, hRl, -⟩ := C
    have k1 := k H locs lsA hP hD hS hv
    refine lv_ladd hx hb hd ?_
    have e1 : Int64.ofInt (w64 (a + b)) = Int64.ofInt a + Int64.ofInt b := (n_w64 _).trans (Int64.ofInt_add _ _)
    rw [← e1]
    exact k1
  · cases hs
set_option maxHeartbeats 2000000 in
theorem s_lsub {q : PST} (C : C0 X SC y) (hd : decode (mT y).2.1 pc = .ok (raw, ln)) (hz : (isz raw == 0 || isz raw == ln) = true) (hl : okL SC Sh.length ls) (hst : okS SC Sh.length st) (hSh : okSh Sh) (hM : okM Sh M) (hc : chkI y raw (.lsub) pc = true) (hs : stp X (.lsub) ls st Sh M = some q) : SOK X SC y pc ln ls st Sh M q := by
  have hraw : raw = .lsub := of_decide_eq_true hc
  obtain rfl := ln_of hz hraw (n := 1) rfl (by decide)
  subst hraw
  obtain ⟨hcl, hX0⟩ := C
  simp only [stp] at hs
  split at hs
  · rename_i b a st
    cases hs
    refine sok_same hl (okS.cons (w64_rng _) hst.tl.tl) hSh hM rfl fun p l e R s m args below meth c D cA adK adV A Q ad cells slots C k H locs lsA hP hD hS hv => ?_
    obtain ⟨hx, hb, hr, hml, hown, hts, hlk, hin, hK, hA, hPS, hPR, hSC, hRf, hRl, -⟩ := C
    have k1 := k H locs lsA hP hD hS hv
    refine lv_lsub hx hb hd ?_
    have e1 : Int64.ofInt (w64 (a - b)) = Int64.ofInt a - Int64.ofInt b := (n_w64 _).trans (Int64.ofInt_sub _ _)
    rw [← e1]
    exact k1
  · cases hs
set_option maxHeartbeats 2000000 in
theorem s_lmul {q : PST} (C : C0 X SC y) (hd : decode (mT y).2.1 pc = .ok (raw, ln)) (hz : (isz raw == 0 || isz raw == ln) = true) (hl : okL SC Sh.length ls) (hst : okS SC Sh.length st) (hSh : okSh Sh) (hM : okM Sh M) (hc : chkI y raw (.lmul) pc = true) (hs : stp X (.lmul) ls st Sh M = some q) : SOK X SC y pc ln ls st Sh M q := by
  have hraw : raw = .lmul := of_decide_eq_true hc
  obtain rfl := ln_of hz hraw (n := 1) rfl (by decide)
  subst hraw
  obtain ⟨hcl, hX0⟩ := C
  simp only [stp] at hs
  split at hs
  · rename_i b a st
    cases hs
    refine sok_same hl (okS.cons (w64_rng _) hst.tl.tl) hSh hM rfl fun p l e R s m args below meth c D cA adK adV A Q ad cells slots C k H locs lsA hP hD hS hv => ?_
    obtain ⟨hx, hb, hr, hml, hown, hts, hlk, hin, hK, hA, hPS, hPR, hSC, hRf, hRl, -⟩ := C
    have k1 := k H locs lsA hP hD hS hv
    refine lv_lmul hx hb hd ?_
    have e1 : Int64.ofInt (w64 (a * b)) = Int64.ofInt a * Int64.ofInt b := (n_w64 _).trans (Int64.ofInt_mul _ _)
    rw [← e1]
    exact k1
  · cases hs
set_option maxHeartbeats 2000000 in
theorem s_land {q : PST} (C : C0 X SC y) (hd : decode (mT y).2.1 pc = .ok (raw, ln)) (hz : (isz raw == 0 || isz raw == ln) = true) (hl : okL SC Sh.length ls) (hst : okS SC Sh.length st) (hSh : okSh Sh) (hM : okM Sh M) (hc : chkI y raw (.land) pc = true) (hs : stp X (.land) ls st Sh M = some q) : SOK X SC y pc ln ls st Sh M q := by
  have hraw : raw = .land := of_decide_eq_true hc
  obtain rfl := ln_of hz hraw (n := 1) rfl (by decide)
  subst hraw
  obtain ⟨hcl, hX0⟩ := C
  simp only [stp] at hs
  split at hs
  · rename_i b a st
    cases hs
    refine sok_same hl (okS.cons (n_rngL _) hst.tl.tl) hSh hM rfl fun p l e R s m args below meth c D cA adK adV A Q ad cells slots C k H locs lsA hP hD hS hv => ?_
    obtain ⟨hx, hb, hr, hml, hown, hts, hlk, hin, hK, hA, hPS, hPR, hSC, hRf, hRl, -⟩ := C
    have k1 := k H locs lsA hP hD hS hv
    refine lv_land hx hb hd ?_
    have e1 : Int64.ofInt (l_and a b) = Int64.ofInt a &&& Int64.ofInt b := n_toL _
    rw [← e1]
    exact k1
  · cases hs
set_option maxHeartbeats 2000000 in
theorem s_lor {q : PST} (C : C0 X SC y) (hd : decode (mT y).2.1 pc = .ok (raw, ln)) (hz : (isz raw == 0 || isz raw == ln) = true) (hl : okL SC Sh.length ls) (hst : okS SC Sh.length st) (hSh : okSh Sh) (hM : okM Sh M) (hc : chkI y raw (.lor) pc = true) (hs : stp X (.lor) ls st Sh M = some q) : SOK X SC y pc ln ls st Sh M q := by
  have hraw : raw = .lor := of_decide_eq_true hc
  obtain rfl := ln_of hz hraw (n := 1) rfl (by decide)
  subst hraw
  obtain ⟨hcl, hX0⟩ := C
  simp only [stp] at hs
  split at hs
  · rename_i b a st
    cases hs
    refine sok_same hl (okS.cons (n_rngL _) hst.tl.tl) hSh hM rfl fun p l e R s m args below meth c D cA adK adV A Q ad cells slots C k H locs lsA hP hD hS hv => ?_
    obtain ⟨hx, hb, hr, hml, hown, hts, hlk, hin, hK, hA, hPS, hPR, hSC, hRf, hRl, -⟩ := C
    have k1 := k H locs lsA hP hD hS hv
    refine lv_lor hx hb hd ?_
    have e1 : Int64.ofInt (l_or a b) = Int64.ofInt a ||| Int64.ofInt b := n_toL _
    rw [← e1]
    exact k1
  · cases hs
set_option maxHeartbeats 2000000 in
theorem s_ldiv {q : PST} (C : C0 X SC y) (hd : decode (mT y).2.1 pc = .ok (raw, ln)) (hz : (isz raw == 0 || isz raw == ln) = true) (hl : okL SC Sh.length ls) (hst : okS SC Sh.length st) (hSh : okSh Sh) (hM : okM Sh M) (hc : chkI y raw (.ldiv) pc = true) (hs : stp X (.ldiv) ls st Sh M = some q) : SOK X SC y pc ln ls st Sh M q := by
  have hraw : raw = .ldiv := of_decide_eq_true hc
  obtain rfl := ln_of hz hraw (n := 1) rfl (by decide)
  subst hraw
  obtain ⟨hcl, hX0⟩ := C
  simp only [stp] at hs
  split at hs
  · rename_i b a st
    split at hs
    · cases hs
    · rename_i hb0
      cases hs
      refine sok_same hl (okS.cons (n_rngL _) hst.tl.tl) hSh hM rfl fun p l e R s m args below meth c D cA adK adV A Q ad cells slots C k H locs lsA hP hD hS hv => ?_
      obtain ⟨hx, hb, hr, hml, hown, hts, hlk, hin, hK, hA, hPS, hPR, hSC, hRf, hRl, -⟩ := C
      have k1 := k H locs lsA hP hD hS hv
      refine lv_ldiv hx hb hd (fun h => hb0 ((n_eqL hst.hd (by omega)).mp (h.trans n_0L.symm))) ?_
      have e1 : Int64.ofInt (l_div a b) = Int64.ofInt a / Int64.ofInt b := n_toL _
      rw [← e1]
      exact k1
  · cases hs
set_option maxHeartbeats 2000000 in
theorem s_lrem {q : PST} (C : C0 X SC y) (hd : decode (mT y).2.1 pc = .ok (raw, ln)) (hz : (isz raw == 0 || isz raw == ln) = true) (hl : okL SC Sh.length ls) (hst : okS SC Sh.length st) (hSh : okSh Sh) (hM : okM Sh M) (hc : chkI y raw (.lrem) pc = true) (hs : stp X (.lrem) ls st Sh M = some q) : SOK X SC y pc ln ls st Sh M q := by
  have hraw : raw = .lrem := of_decide_eq_true hc
  obtain rfl := ln_of hz hraw (n := 1) rfl (by decide)
  subst hraw
  obtain ⟨hcl, hX0⟩ := C
  simp only [stp] at hs
  split at hs
  · rename_i b a st
    split at hs
    · cases hs
    · rename_i hb0
      cases hs
      refine sok_same hl (okS.cons (n_rngL _) hst.tl.tl) hSh hM rfl fun p l e R s m args below meth c D cA adK adV A Q ad cells slots C k H locs lsA hP hD hS hv => ?_
      obtain ⟨hx, hb, hr, hml, hown, hts, hlk, hin, hK, hA, hPS, hPR, hSC, hRf, hRl, -⟩ := C
      have k1 := k H locs lsA hP hD hS hv
      refine lv_lrem hx hb hd (fun h => hb0 ((n_eqL hst.hd (by omega)).mp (h.trans n_0L.symm))) ?_
      have e1 : Int64.ofInt (l_rem a b) = Int64.ofInt a - Int64.ofInt a / Int64.ofInt b * Int64.ofInt b := n_toL _
      rw [← e1]
      exact k1
  · cases hs
set_option maxHeartbeats 2000000 in
theorem s_lshl {q : PST} (C : C0 X SC y) (hd : decode (mT y).2.1 pc = .ok (raw, ln)) (hz : (isz raw == 0 || isz raw == ln) = true) (hl : okL SC Sh.length ls) (hst : okS SC Sh.length st) (hSh : okSh Sh) (hM : okM Sh M) (hc : chkI y raw (.lshl) pc = true) (hs : stp X (.lshl) ls st Sh M = some q) : SOK X SC y pc ln ls st Sh M q := by
  have hraw : raw = .lshl := of_decide_eq_true hc
  obtain rfl := ln_of hz hraw (n := 1) rfl (by decide)
  subst hraw
  obtain ⟨hcl, hX0⟩ := C
  simp only [stp] at hs
  split at hs
  · rename_i b a st
    cases hs
    refine sok_same hl (okS.cons (n_rngL _) hst.tl.tl) hSh hM rfl fun p l e R s m args below meth c D cA adK adV A Q ad cells slots C k H locs lsA hP hD hS hv => ?_
    obtain ⟨hx, hb, hr, hml, hown, hts, hlk, hin, hK, hA, hPS, hPR, hSC, hRf, hRl, -⟩ := C
    have k1 := k H locs lsA hP hD hS hv
    refine lv_lshl hx hb hd (v := Int64.ofInt (l_shl a b)) (n_toL _).symm ?_
    exact k1
  · cases hs
set_option maxHeartbeats 2000000 in
theorem s_i2l {q : PST} (C : C0 X SC y) (hd : decode (mT y).2.1 pc = .ok (raw, ln)) (hz : (isz raw == 0 || isz raw == ln) = true) (hl : okL SC Sh.length ls) (hst : okS SC Sh.length st) (hSh : okSh Sh) (hM : okM Sh M) (hc : chkI y raw (.i2l) pc = true) (hs : stp X (.i2l) ls st Sh M = some q) : SOK X SC y pc ln ls st Sh M q := by
  have hraw : raw = .i2l := of_decide_eq_true hc
  obtain rfl := ln_of hz hraw (n := 1) rfl (by decide)
  subst hraw
  obtain ⟨hcl, hX0⟩ := C
  simp only [stp] at hs
  split at hs
  · rename_i a st
    cases hs
    have h1 : -2147483648 ≤ a ∧ a < 2147483648 := hst.hd
    refine sok_same hl (okS.cons (by show _ ∧ _; omega) hst.tl) hSh hM rfl fun p l e R s m args below meth c D cA adK adV A Q ad cells slots C k H locs lsA hP hD hS hv => ?_
    obtain ⟨hx, hb, hr, hml, hown, hts, hlk, hin, hK, hA, hPS, hPR, hSC, hRf, hRl, -⟩ := C
    have k1 := k H locs lsA hP hD hS hv
    refine lv_i2l hx hb hd (v := Int64.ofInt a) ?_ ?_
    · refine Int64.toInt_inj.mp ?_
      rw [Int32.toInt_toInt64, n_of h1, n_ofL (by omega)]
    · exact k1
  · cases hs
set_option maxHeartbeats 2000000 in
theorem s_l2i {q : PST} (C : C0 X SC y) (hd : decode (mT y).2.1 pc = .ok (raw, ln)) (hz : (isz raw == 0 || isz raw == ln) = true) (hl : okL SC Sh.length ls) (hst : okS SC Sh.length st) (hSh : okSh Sh) (hM : okM Sh M) (hc : chkI y raw (.l2i) pc = true) (hs : stp X (.l2i) ls st Sh M = some q) : SOK X SC y pc ln ls st Sh M q := by
  have hraw : raw = .l2i := of_decide_eq_true hc
  obtain rfl := ln_of hz hraw (n := 1) rfl (by decide)
  subst hraw
  obtain ⟨hcl, hX0⟩ := C
  simp only [stp] at hs
  split at hs
  · rename_i a st
    cases hs
    refine sok_same hl (okS.cons (n_rng _) hst.tl) hSh hM rfl fun p l e R s m args below meth c D cA adK adV A Q ad cells slots C k H locs lsA hP hD hS hv => ?_
    obtain ⟨hx, hb, hr, hml, hown, hts, hlk, hin, hK, hA, hPS, hPR, hSC, hRf, hRl, -⟩ := C
    have k1 := k H locs lsA hP hD hS hv
    refine lv_l2i hx hb hd (v := Int32.ofInt (l_i a)) (n_to _).symm ?_
    exact k1
  · cases hs
set_option maxHeartbeats 2000000 in
theorem s_i2b {q : PST} (C : C0 X SC y) (hd : decode (mT y).2.1 pc = .ok (raw, ln)) (hz : (isz raw == 0 || isz raw == ln) = true) (hl : okL SC Sh.length ls) (hst : okS SC Sh.length st) (hSh : okSh Sh) (hM : okM Sh M) (hc : chkI y raw (.i2b) pc = true) (hs : stp X (.i2b) ls st Sh M = some q) : SOK X SC y pc ln ls st Sh M q := by
  have hraw : raw = .i2b := of_decide_eq_true hc
  obtain rfl := ln_of hz hraw (n := 1) rfl (by decide)
  subst hraw
  obtain ⟨hcl, hX0⟩ := C
  simp only [stp] at hs
  split at hs
  · rename_i a st
    cases hs
    refine sok_same hl (okS.cons (n_rng _) hst.tl) hSh hM rfl fun p l e R s m args below meth c D cA adK adV A Q ad cells slots C k H locs lsA hP hD hS hv => ?_
    obtain ⟨hx, hb, hr, hml, hown, hts, hlk, hin, hK, hA, hPS, hPR, hSC, hRf, hRl, -⟩ := C
    have k1 := k H locs lsA hP hD hS hv
    refine lv_i2b hx hb hd (v := Int32.ofInt (i_b a)) (n_to _).symm ?_
    exact k1
  · cases hs
set_option maxHeartbeats 2000000 in
theorem s_i2s {q : PST} (C : C0 X SC y) (hd : decode (mT y).2.1 pc = .ok (raw, ln)) (hz : (isz raw == 0 || isz raw == ln) = true) (hl : okL SC Sh.length ls) (hst : okS SC Sh.length st) (hSh : okSh Sh) (hM : okM Sh M) (hc : chkI y raw (.i2s) pc = true) (hs : stp X (.i2s) ls st Sh M = some q) : SOK X SC y pc ln ls st Sh M q := by
  have hraw : raw = .i2s := of_decide_eq_true hc
  obtain rfl := ln_of hz hraw (n := 1) rfl (by decide)
  subst hraw
  obtain ⟨hcl, hX0⟩ := C
  simp only [stp] at hs
  split at hs
  · rename_i a st
    cases hs
    refine sok_same hl (okS.cons (n_rng _) hst.tl) hSh hM rfl fun p l e R s m args below meth c D cA adK adV A Q ad cells slots C k H locs lsA hP hD hS hv => ?_
    obtain ⟨hx, hb, hr, hml, hown, hts, hlk, hin, hK, hA, hPS, hPR, hSC, hRf, hRl, -⟩ := C
    have k1 := k H locs lsA hP hD hS hv
    refine lv_i2s hx hb hd (v := Int32.ofInt (i_s a)) (n_to _).symm ?_
    exact k1
  · cases hs
set_option maxHeartbeats 2000000 in
theorem s_lcmp {q : PST} (C : C0 X SC y) (hd : decode (mT y).2.1 pc = .ok (raw, ln)) (hz : (isz raw == 0 || isz raw == ln) = true) (hl : okL SC Sh.length ls) (hst : okS SC Sh.length st) (hSh : okSh Sh) (hM : okM Sh M) (hc : chkI y raw (.lcmp) pc = true) (hs : stp X (.lcmp) ls st Sh M = some q) : SOK X SC y pc ln ls st Sh M q := by
  have hraw : raw = .lcmp := of_decide_eq_true hc
  obtain rfl := ln_of hz hraw (n := 1) rfl (by decide)
  subst hraw
  obtain ⟨hcl, hX0⟩ := C
  simp only [stp] at hs
  split at hs
  · rename_i b a st
    cases hs
    have hb1 : -9223372036854775808 ≤ b ∧ b < 9223372036854775808 := hst.hd
    have ha1 : -9223372036854775808 ≤ a ∧ a < 9223372036854775808 := hst.tl.hd
    refine sok_same hl (okS.cons (by show _ ∧ _; split <;> (try split) <;> omega) hst.tl.tl) hSh hM rfl fun p l e R s m args below meth c D cA adK adV A Q ad cells slots C k H locs lsA hP hD hS hv => ?_
    obtain ⟨hx, hb, hr, hml, hown, hts, hlk, hin, hK, hA, hPS, hPR, hSC, hRf, hRl, -⟩ := C
    have k1 := k H locs lsA hP hD hS hv
    refine W.lcmp hx hb hd ?_
    have e1 : Int32.ofInt (if a < b then -1 else if a = b then 0 else 1) = lg_cmp (Int64.ofInt a) (Int64.ofInt b) := by
      unfold lg_cmp
      simp only [gt_iff_lt, n_ltL hb1 ha1, n_eqL ha1 hb1]
      rcases Int.lt_trichotomy a b with h | h | h
      · rw [if_pos h, if_neg (by omega : ¬ b < a), if_neg (by omega : ¬ a = b)]; rfl
      · rw [if_neg (by omega : ¬ a < b), if_pos h, if_neg (by omega : ¬ b < a), if_pos h]; rfl
      · rw [if_neg (by omega : ¬ a < b), if_neg (by omega : ¬ a = b), if_pos h]; rfl
    rw [← e1]
    exact k1
  · cases hs
set_option maxHeartbeats 2000000 in
theorem s_dup {q : PST} (C : C0 X SC y) (hd : decode (mT y).2.1 pc = .ok (raw, ln)) (hz : (isz raw == 0 || isz raw == ln) = true) (hl : okL SC Sh.length ls) (hst : okS SC Sh.length st) (hSh : okSh Sh) (hM : okM Sh M) (hc : chkI y raw (.dup) pc = true) (hs : stp X (.dup) ls st Sh M = some q) : SOK X SC y pc ln ls st Sh M q := by
  have hraw : raw = .dup := of_decide_eq_true hc
  obtain rfl := ln_of hz hraw (n := 1) rfl (by decide)
  subst hraw
  obtain ⟨hcl, hX0⟩ := C
  simp only [stp] at hs
  split at hs
  · rename_i a st
    cases hs
    refine sok_same hl (okS.cons hst.hd hst) hSh hM rfl fun p l e R s m args below meth c D cA adK adV A Q ad cells slots C k H locs lsA hP hD hS hv => ?_
    obtain ⟨hx, hb, hr, hml, hown, hts, hlk, hin, hK, hA, hPS, hPR, hSC, hRf, hRl, -⟩ := C
    exact lv_dup hx hb hd rfl (k H locs lsA hP hD hS hv)
  · rename_i a st
    cases hs
    refine sok_same hl (okS.cons hst.hd hst) hSh hM rfl fun p l e R s m args below meth c D cA adK adV A Q ad cells slots C k H locs lsA hP hD hS hv => ?_
    obtain ⟨hx, hb, hr, hml, hown, hts, hlk, hin, hK, hA, hPS, hPR, hSC, hRf, hRl, -⟩ := C
    exact lv_dup hx hb hd cat1R (k H locs lsA hP hD hS hv)
  · cases hs
set_option maxHeartbeats 2000000 in
theorem s_dup2 {q : PST} (C : C0 X SC y) (hd : decode (mT y).2.1 pc = .ok (raw, ln)) (hz : (isz raw == 0 || isz raw == ln) = true) (hl : okL SC Sh.length ls) (hst : okS SC Sh.length st) (hSh : okSh Sh) (hM : okM Sh M) (hc : chkI y raw (.dup2) pc = true) (hs : stp X (.dup2) ls st Sh M = some q) : SOK X SC y pc ln ls st Sh M q := by
  have hraw : raw = .dup2 := of_decide_eq_true hc
  obtain rfl := ln_of hz hraw (n := 1) rfl (by decide)
  subst hraw
  obtain ⟨hcl, hX0⟩ := C
  simp only [stp] at hs
  split at hs
  · rename_i j q st
    cases hs
    refine sok_same hl (okS.cons hst.hd (okS.cons hst.tl.hd hst)) hSh hM rfl fun p l e R s m args below meth c D cA adK adV A Q ad cells slots C k H locs lsA hP hD hS hv => ?_
    obtain ⟨hx, hb, hr, hml, hown, hts, hlk, hin, hK, hA, hPS, hPR, hSC, hRf, hRl, -⟩ := C
    exact lv_dup2_11 hx hb hd rfl cat1R (k H locs lsA hP hD hS hv)
  · cases hs
set_option maxHeartbeats 2000000 in
theorem s_pop {q : PST} (C : C0 X SC y) (hd : decode (mT y).2.1 pc = .ok (raw, ln)) (hz : (isz raw == 0 || isz raw == ln) = true) (hl : okL SC Sh.length ls) (hst : okS SC Sh.length st) (hSh : okSh Sh) (hM : okM Sh M) (hc : chkI y raw (.pop) pc = true) (hs : stp X (.pop) ls st Sh M = some q) : SOK X SC y pc ln ls st Sh M q := by
  have hraw : raw = .pop := of_decide_eq_true hc
  obtain rfl := ln_of hz hraw (n := 1) rfl (by decide)
  subst hraw
  obtain ⟨hcl, hX0⟩ := C
  simp only [stp] at hs
  split at hs
  · rename_i a st
    cases hs
    refine sok_same hl hst.tl hSh hM rfl fun p l e R s m args below meth c D cA adK adV A Q ad cells slots C k H locs lsA hP hD hS hv => ?_
    obtain ⟨hx, hb, hr, hml, hown, hts, hlk, hin, hK, hA, hPS, hPR, hSC, hRf, hRl, -⟩ := C
    exact lv_pop hx hb hd rfl (k H locs lsA hP hD hS hv)
  · rename_i a st
    cases hs
    refine sok_same hl hst.tl hSh hM rfl fun p l e R s m args below meth c D cA adK adV A Q ad cells slots C k H locs lsA hP hD hS hv => ?_
    obtain ⟨hx, hb, hr, hml, hown, hts, hlk, hin, hK, hA, hPS, hPR, hSC, hRf, hRl, -⟩ := C
    exact lv_pop hx hb hd cat1R (k H locs lsA hP hD hS hv)
  · cases hs
set_option maxHeartbeats 2000000 in
theorem s_aconst_null {q : PST} (C : C0 X SC y) (hd : decode (mT y).2.1 pc = .ok (raw, ln)) (hz : (isz raw == 0 || isz raw == ln) = true) (hl : okL SC Sh.length ls) (hst : okS SC Sh.length st) (hSh : okSh Sh) (hM : okM Sh M) (hc : chkI y raw (.aconst_null) pc = true) (hs : stp X (.aconst_null) ls st Sh M = some q) : SOK X SC y pc ln ls st Sh M q := by
  have hraw : raw = .aconst_null := of_decide_eq_true hc
  obtain rfl := ln_of hz hraw (n := 1) rfl (by decide)
  subst hraw
  obtain ⟨hcl, hX0⟩ := C
  simp only [stp] at hs
  cases hs
  refine sok_same hl (okS.cons trivial hst) hSh hM rfl fun p l e R s m args below meth c D cA adK adV A Q ad cells slots C k H locs lsA hP hD hS hv => ?_
  obtain ⟨hx, hb, hr, hml, hown, hts, hlk, hin, hK, hA, hPS, hPR, hSC, hRf, hRl, -⟩ := C
  exact lv_null hx hb hd (k H locs lsA hP hD hS hv)
set_option maxHeartbeats 2000000 in
theorem s_iconst {q : PST} (C : C0 X SC y) (hd : decode (mT y).2.1 pc = .ok (raw, ln)) (hz : (isz raw == 0 || isz raw == ln) = true) (hl : okL SC Sh.length ls) (hst : okS SC Sh.length st) (hSh : okSh Sh) (hM : okM Sh M) {v : Int} (hc : chkI y raw (.iconst v) pc = true) (hs : stp X (.iconst v) ls st Sh M = some q) : SOK X SC y pc ln ls st Sh M q := by
  obtain ⟨hcl, hX0⟩ := C
  simp only [stp] at hs
  cases hs
  simp only [chkI] at hc
  split at hc
  · rename_i u
    simp only [Bool.and_eq_true, decide_eq_true_eq] at hc
    obtain ⟨rfl, h2⟩ := hc
    obtain rfl := ln_of hz rfl (n := 1) rfl (by decide)
    refine sok_same hl (okS.cons h2 hst) hSh hM rfl fun p l e R s m args below meth c D cA adK adV A Q ad cells slots C k H locs lsA hP hD hS hv => ?_
    obtain ⟨hx, hb, hr, hml, hown, hts, hlk, hin, hK, hA, hPS, hPR, hSC, hRf, hRl, -⟩ := C
    exact lv_iconst hx hb hd rfl (k H locs lsA hP hD hS hv)
  · rename_i u
    simp only [Bool.and_eq_true, decide_eq_true_eq] at hc
    obtain ⟨h1, h2⟩ := hc
    obtain rfl := ln_of hz rfl (n := 2) rfl (by decide)
    refine sok_same hl (okS.cons h2 hst) hSh hM rfl fun p l e R s m args below meth c D cA adK adV A Q ad cells slots C k H locs lsA hP hD hS hv => ?_
    obtain ⟨hx, hb, hr, hml, hown, hts, hlk, hin, hK, hA, hPS, hPR, hSC, hRf, hRl, -⟩ := C
    exact lv_bipush hx hb hd h1 (k H locs lsA hP hD hS hv)
  · rename_i u
    simp only [Bool.and_eq_true, decide_eq_true_eq] at hc
    obtain ⟨h1, h2⟩ := hc
    obtain rfl := ln_of hz rfl (n := 3) rfl (by decide)
    refine sok_same hl (okS.cons h2 hst) hSh hM rfl fun p l e R s m args below meth c D cA adK adV A Q ad cells slots C k H locs lsA hP hD hS hv => ?_
    obtain ⟨hx, hb, hr, hml, hown, hts, hlk, hin, hK, hA, hPS, hPR, hSC, hRf, hRl, -⟩ := C
    exact lv_sipush hx hb hd h1 (k H locs lsA hP hD hS hv)
  · rename_i n
    obtain ⟨h1, h2⟩ := ctb_in hcl hc
    obtain rfl := ln_of hz rfl (n := 2) rfl (by decide)
    refine sok_same hl (okS.cons h1 hst) hSh hM rfl fun p l e R s m args below meth c D cA adK adV A Q ad cells slots C k H locs lsA hP hD hS hv => ?_
    obtain ⟨hx, hb, hr, hml, hown, hts, hlk, hin, hK, hA, hPS, hPR, hSC, hRf, hRl, -⟩ := C
    exact lv_ldc hx hb hown (hts _ h2) hd (k H locs lsA hP hD hS hv)
  · rename_i n
    obtain ⟨h1, h2⟩ := ctb_in hcl hc
    obtain rfl := ln_of hz rfl (n := 3) rfl (by decide)
    refine sok_same hl (okS.cons h1 hst) hSh hM rfl fun p l e R s m args below meth c D cA adK adV A Q ad cells slots C k H locs lsA hP hD hS hv => ?_
    obtain ⟨hx, hb, hr, hml, hown, hts, hlk, hin, hK, hA, hPS, hPR, hSC, hRf, hRl, -⟩ := C
    exact lv_ldcw hx hb hown (hts _ h2) hd (k H locs lsA hP hD hS hv)
  · cases hc
set_option maxHeartbeats 2000000 in
theorem s_goto_w {q : PST} (C : C0 X SC y) (hd : decode (mT y).2.1 pc = .ok (raw, ln)) (hz : (isz raw == 0 || isz raw == ln) = true) (hl : okL SC Sh.length ls) (hst : okS SC Sh.length st) (hSh : okSh Sh) (hM : okM Sh M) {v : Int} (hc : chkI y raw (.goto_w v) pc = true) (hs : stp X (.goto_w v) ls st Sh M = some q) : SOK X SC y pc ln ls st Sh M q := by
  obtain ⟨hcl, hX0⟩ := C
  simp only [stp] at hs
  cases hs
  simp only [chkI] at hc
  split at hc
  · rename_i n
    simp only [decide_eq_true_eq] at hc
    obtain rfl := ln_of hz rfl (n := 1) rfl (by decide)
    have hn : n.val < 2 := n.isLt
    refine sok_same hl (okS.cons (by show _ ∧ _; omega) hst) hSh hM rfl fun p l e R s m args below meth c D cA adK adV A Q ad cells slots C k H locs lsA hP hD hS hv => ?_
    obtain ⟨hx, hb, hr, hml, hown, hts, hlk, hin, hK, hA, hPS, hPR, hSC, hRf, hRl, -⟩ := C
    refine lv_lconst hx hb hd (v := Int64.ofInt v) ?_ (k H locs lsA hP hD hS hv)
    rw [← hc]
    rfl
  · rename_i n
    obtain ⟨h1, h2⟩ := ltb_in hcl hc
    obtain rfl := ln_of hz rfl (n := 3) rfl (by decide)
    refine sok_same hl (okS.cons h1 hst) hSh hM rfl fun p l e R s m args below meth c D cA adK adV A Q ad cells slots C k H locs lsA hP hD hS hv => ?_
    obtain ⟨hx, hb, hr, hml, hown, hts, hlk, hin, hK, hA, hPS, hPR, hSC, hRf, hRl, -⟩ := C
    exact lv_ldc2 hx hb hown (hts _ h2) hd (k H locs lsA hP hD hS hv)
  · cases hc
set_option maxHeartbeats 2000000 in
theorem s_iload {q : PST} (C : C0 X SC y) (hd : decode (mT y).2.1 pc = .ok (raw, ln)) (hz : (isz raw == 0 || isz raw == ln) = true) (hl : okL SC Sh.length ls) (hst : okS SC Sh.length st) (hSh : okSh Sh) (hM : okM Sh M) {k0 : Nat} (hc : chkI y raw (.iload k0) pc = true) (hs : stp X (.iload k0) ls st Sh M = some q) : SOK X SC y pc ln ls st Sh M q := by
  obtain ⟨hcl, hX0⟩ := C
  simp only [stp] at hs
  split at hs
  · rename_i z hg
    cases hs
    simp only [chkI] at hc
    split at hc
    · simp only [decide_eq_true_eq] at hc
      subst hc
      obtain rfl := ln_of hz rfl (n := 2) rfl (by decide)
      refine sok_same hl (okS.cons (hl _ _ hg) hst) hSh hM rfl fun p l e R s m args below meth c D cA adK adV A Q ad cells slots C k H locs lsA hP hD hS hv => ?_
      obtain ⟨hx, hb, hr, hml, hown, hts, hlk, hin, hK, hA, hPS, hPR, hSC, hRf, hRl, -⟩ := C
      exact lv_iload hx hb hd (LV_at hv hg) (k H locs lsA hP hD hS hv)
    · simp only [decide_eq_true_eq] at hc
      obtain rfl := ln_of hz rfl (n := 1) rfl (by decide)
      refine sok_same hl (okS.cons (hl _ _ hg) hst) hSh hM rfl fun p l e R s m args below meth c D cA adK adV A Q ad cells slots C k H locs lsA hP hD hS hv => ?_
      obtain ⟨hx, hb, hr, hml, hown, hts, hlk, hin, hK, hA, hPS, hPR, hSC, hRf, hRl, -⟩ := C
      exact lv_iload_n hx hb hd hc (LV_at hv hg) (k H locs lsA hP hD hS hv)
    · cases hc
  · cases hs
set_option maxHeartbeats 2000000 in
theorem s_lload {q : PST} (C : C0 X SC y) (hd : decode (mT y).2.1 pc = .ok (raw, ln)) (hz : (isz raw == 0 || isz raw == ln) = true) (hl : okL SC Sh.length ls) (hst : okS SC Sh.length st) (hSh : okSh Sh) (hM : okM Sh M) {k0 : Nat} (hc : chkI y raw (.lload k0) pc = true) (hs : stp X (.lload k0) ls st Sh M = some q) : SOK X SC y pc ln ls st Sh M q := by
  obtain ⟨hcl, hX0⟩ := C
  simp only [stp] at hs
  split at hs
  · rename_i z hg
    cases hs
    simp only [chkI] at hc
    split at hc
    · simp only [decide_eq_true_eq] at hc
      subst hc
      obtain rfl := ln_of hz rfl (n := 2) rfl (by decide)
      refine sok_same hl (okS.cons (hl _ _ hg) hst) hSh hM rfl fun p l e R s m args below meth c D cA adK adV A Q ad cells slots C k H locs lsA hP hD hS hv => ?_
      obtain ⟨hx, hb, hr, hml, hown, hts, hlk, hin, hK, hA, hPS, hPR, hSC, hRf, hRl, -⟩ := C
      exact lv_lload hx hb hd (LV_at hv hg) (k H locs lsA hP hD hS hv)
    · simp only [decide_eq_true_eq] at hc
      obtain rfl := ln_of hz rfl (n := 1) rfl (by decide)
      refine sok_same hl (okS.cons (hl _ _ hg) hst) hSh hM rfl fun p l e R s m args below meth c D cA adK adV A Q ad cells slots C k H locs lsA hP hD hS hv => ?_
      obtain ⟨hx, hb, hr, hml, hown, hts, hlk, hin, hK, hA, hPS, hPR, hSC, hRf, hRl, -⟩ := C
      exact lv_lload_n hx hb hd hc (LV_at hv hg) (k H locs lsA hP hD hS hv)
    · cases hc
  · cases hs
set_option maxHeartbeats 2000000 in
theorem s_aload {q : PST} (C : C0 X SC y) (hd : decode (mT y).2.1 pc = .ok (raw, ln)) (hz : (isz raw == 0 || isz raw == ln) = true) (hl : okL SC Sh.length ls) (hst : okS SC Sh.length st) (hSh : okSh Sh) (hM : okM Sh M) {k0 : Nat} (hc : chkI y raw (.aload k0) pc = true) (hs : stp X (.aload k0) ls st Sh M = some q) : SOK X SC y pc ln ls st Sh M q := by
  obtain ⟨hcl, hX0⟩ := C
  simp only [stp] at hs
  split at hs
  · rename_i z hg
    cases hs
    simp only [chkI] at hc
    split at hc
    · simp only [decide_eq_true_eq] at hc
      subst hc
      obtain rfl := ln_of hz rfl (n := 2) rfl (by decide)
      refine sok_same hl (okS.cons (hl _ _ hg) hst) hSh hM rfl fun p l e R s m args below meth c D cA adK adV A Q ad cells slots C k H locs lsA hP hD hS hv => ?_
      obtain ⟨hx, hb, hr, hml, hown, hts, hlk, hin, hK, hA, hPS, hPR, hSC, hRf, hRl, -⟩ := C
      have k1 := k H locs lsA hP hD hS hv
      have h1 := LV_at hv hg
      rcases z with z | z
      · cases z with
        | none => exact lv_aloadN hx hb hd h1 k1
        | some a => exact lv_aload hx hb hd h1 k1
      · exact lv_aload hx hb hd h1 k1
    · simp only [decide_eq_true_eq] at hc
      obtain rfl := ln_of hz rfl (n := 1) rfl (by decide)
      refine sok_same hl (okS.cons (hl _ _ hg) hst) hSh hM rfl fun p l e R s m args below meth c D cA adK adV A Q ad cells slots C k H locs lsA hP hD hS hv => ?_
      obtain ⟨hx, hb, hr, hml, hown, hts, hlk, hin, hK, hA, hPS, hPR, hSC, hRf, hRl, -⟩ := C
      have k1 := k H locs lsA hP hD hS hv
      have h1 := LV_at hv hg
      rcases z with z | z
      · cases z with
        | none => exact lv_aload_nN hx hb hd hc h1 k1
        | some a => exact lv_aload_n hx hb hd hc h1 k1
      · exact lv_aload_n hx hb hd hc h1 k1
    · cases hc
  · cases hs
set_option maxHeartbeats 2000000 in
theorem s_istore {q : PST} (C : C0 X SC y) (hd : decode (mT y).2.1 pc = .ok (raw, ln)) (hz : (isz raw == 0 || isz raw == ln) = true) (hl : okL SC Sh.length ls) (hst : okS SC Sh.length st) (hSh : okSh Sh) (hM : okM Sh M) {k0 : Nat} (hc : chkI y raw (.istore k0) pc = true) (hs : stp X (.istore k0) ls st Sh M = some q) : SOK X SC y pc ln ls st Sh M q := by
  obtain ⟨hcl, hX0⟩ := C
  simp only [stp] at hs
  split at hs
  · rename_i z st
    cases hs
    simp only [chkI, Bool.and_eq_true, decide_eq_true_eq] at hc
    obtain ⟨hlt, hc⟩ := hc
    split at hc
    · simp only [decide_eq_true_eq] at hc
      subst hc
      obtain rfl := ln_of hz rfl (n := 2) rfl (by decide)
      refine sok_same (okL_st1 hl hst.hd) hst.tl hSh hM lst1_len fun p l e R s m args below meth c D cA adK adV A Q ad cells slots C k H locs lsA hP hD hS hv => ?_
      obtain ⟨hx, hb, hr, hml, hown, hts, hlk, hin, hK, hA, hPS, hPR, hSC, hRf, hRl, -⟩ := C
      exact lv_istore hx hb hd hv hlt rfl fun ls' hv' => k H locs ls' hP hD hS (LV_st1 (v := vI z) hv')
    · simp only [decide_eq_true_eq] at hc
      obtain rfl := ln_of hz rfl (n := 1) rfl (by decide)
      refine sok_same (okL_st1 hl hst.hd) hst.tl hSh hM lst1_len fun p l e R s m args below meth c D cA adK adV A Q ad cells slots C k H locs lsA hP hD hS hv => ?_
      obtain ⟨hx, hb, hr, hml, hown, hts, hlk, hin, hK, hA, hPS, hPR, hSC, hRf, hRl, -⟩ := C
      exact lv_istore_n hx hb hd hc hv hlt rfl fun ls' hv' => k H locs ls' hP hD hS (LV_st1 (v := vI z) hv')
    · cases hc
  · cases hs
set_option maxHeartbeats 2000000 in
theorem s_lstore {q : PST} (C : C0 X SC y) (hd : decode (mT y).2.1 pc = .ok (raw, ln)) (hz : (isz raw == 0 || isz raw == ln) = true) (hl : okL SC Sh.length ls) (hst : okS SC Sh.length st) (hSh : okSh Sh) (hM : okM Sh M) {k0 : Nat} (hc : chkI y raw (.lstore k0) pc = true) (hs : stp X (.lstore k0) ls st Sh M = some q) : SOK X SC y pc ln ls st Sh M q := by
  obtain ⟨hcl, hX0⟩ := C
  simp only [stp] at hs
  split at hs
  · rename_i z st
    cases hs
    simp only [chkI, Bool.and_eq_true, decide_eq_true_eq] at hc
    obtain ⟨hlt, hc⟩ := hc
    split at hc
    · simp only [decide_eq_true_eq] at hc
      subst hc
      obtain rfl := ln_of hz rfl (n := 2) rfl (by decide)
      refine sok_same (okL_st2 hl hst.hd) hst.tl hSh hM lst2_len fun p l e R s m args below meth c D cA adK adV A Q ad cells slots C k H locs lsA hP hD hS hv => ?_
      obtain ⟨hx, hb, hr, hml, hown, hts, hlk, hin, hK, hA, hPS, hPR, hSC, hRf, hRl, -⟩ := C
      exact lv_lstore hx hb hd hv hlt rfl fun ls' hv' => k H locs ls' hP hD hS (LV_st2 (v := vL z) hv')
    · simp only [decide_eq_true_eq] at hc
      obtain rfl := ln_of hz rfl (n := 1) rfl (by decide)
      refine sok_same (okL_st2 hl hst.hd) hst.tl hSh hM lst2_len fun p l e R s m args below meth c D cA adK adV A Q ad cells slots C k H locs lsA hP hD hS hv => ?_
      obtain ⟨hx, hb, hr, hml, hown, hts, hlk, hin, hK, hA, hPS, hPR, hSC, hRf, hRl, -⟩ := C
      exact lv_lstore_n hx hb hd hc hv hlt rfl fun ls' hv' => k H locs ls' hP hD hS (LV_st2 (v := vL z) hv')
    · cases hc
  · cases hs
set_option maxHeartbeats 2000000 in
theorem s_astore {q : PST} (C : C0 X SC y) (hd : decode (mT y).2.1 pc = .ok (raw, ln)) (hz : (isz raw == 0 || isz raw == ln) = true) (hl : okL SC Sh.length ls) (hst : okS SC Sh.length st) (hSh : okSh Sh) (hM : okM Sh M) {k0 : Nat} (hc : chkI y raw (.astore k0) pc = true) (hs : stp X (.astore k0) ls st Sh M = some q) : SOK X SC y pc ln ls st Sh M q := by
  obtain ⟨hcl, hX0⟩ := C
  simp only [stp] at hs
  split at hs
  · rename_i z st
    cases hs
    simp only [chkI, Bool.and_eq_true, decide_eq_true_eq] at hc
    obtain ⟨hlt, hc⟩ := hc
    split at hc
    · simp only [decide_eq_true_eq] at hc
      subst hc
      obtain rfl := ln_of hz rfl (n := 2) rfl (by decide)
      refine sok_same (okL_st1 hl hst.hd) hst.tl hSh hM lst1_len fun p l e R s m args below meth c D cA adK adV A Q ad cells slots C k H locs lsA hP hD hS hv => ?_
      obtain ⟨hx, hb, hr, hml, hown, hts, hlk, hin, hK, hA, hPS, hPR, hSC, hRf, hRl, -⟩ := C
      rcases z with z | z
      · cases z with
        | none => exact lv_astoreN hx hb hd hv hlt rfl fun ls' hv' => k H locs ls' hP hD hS (LV_st1 (v := vR none) hv')
        | some a => exact lv_astore hx hb hd hv hlt rfl fun ls' hv' => k H locs ls' hP hD hS (LV_st1 (v := vR (some a)) hv')
      · exact lv_astore hx hb hd hv hlt rfl fun ls' hv' => k H locs ls' hP hD hS (LV_st1 (v := vS z) hv')
    · simp only [decide_eq_true_eq] at hc
      obtain rfl := ln_of hz rfl (n := 1) rfl (by decide)
      refine sok_same (okL_st1 hl hst.hd) hst.tl hSh hM lst1_len fun p l e R s m args below meth c D cA adK adV A Q ad cells slots C k H locs lsA hP hD hS hv => ?_
      obtain ⟨hx, hb, hr, hml, hown, hts, hlk, hin, hK, hA, hPS, hPR, hSC, hRf, hRl, -⟩ := C
      rcases z with z | z
      · cases z with
        | none => exact lv_astore_nN hx hb hd hc hv hlt rfl fun ls' hv' => k H locs ls' hP hD hS (LV_st1 (v := vR none) hv')
        | some a => exact lv_astore_n hx hb hd hc hv hlt rfl fun ls' hv' => k H locs ls' hP hD hS (LV_st1 (v := vR (some a)) hv')
      · exact lv_astore_n hx hb hd hc hv hlt rfl fun ls' hv' => k H locs ls' hP hD hS (LV_st1 (v := vS z) hv')
    · cases hc
  · cases hs
set_option maxHeartbeats 2000000 in
theorem s_iinc {q : PST} (C : C0 X SC y) (hd : decode (mT y).2.1 pc = .ok (raw, ln)) (hz : (isz raw == 0 || isz raw == ln) = true) (hl : okL SC Sh.length ls) (hst : okS SC Sh.length st) (hSh : okSh Sh) (hM : okM Sh M) {k0 : Nat} {c0 : Int} (hc : chkI y raw (.iinc k0 c0) pc = true) (hs : stp X (.iinc k0 c0) ls st Sh M = some q) : SOK X SC y pc ln ls st Sh M q := by
  obtain ⟨hcl, hX0⟩ := C
  simp only [stp] at hs
  split at hs
  · rename_i z hg
    cases hs
    simp only [chkI, Bool.and_eq_true, decide_eq_true_eq] at hc
    obtain ⟨hlt, hc⟩ := hc
    split at hc
    · simp only [Bool.and_eq_true, decide_eq_true_eq] at hc
      obtain ⟨rfl, rfl⟩ := hc
      obtain rfl := ln_of hz rfl (n := 3) rfl (by decide)
      refine sok_same (okL_st1 hl (w32_rng _)) hst hSh hM lst1_len fun p l e R s m args below meth c D cA adK adV A Q ad cells slots C k H locs lsA hP hD hS hv => ?_
      obtain ⟨hx, hb, hr, hml, hown, hts, hlk, hin, hK, hA, hPS, hPR, hSC, hRf, hRl, -⟩ := C
      obtain ⟨j, hj⟩ := List.getElem?_of_mem (LV_mem (ad := ad) (adK := adK) (q := (_, _)) |>.mpr ⟨_, hg, rfl⟩)
      refine lv_iinc (v := Int32.ofInt (w32 (z + _))) hx hb hd hv (k := j) hj ?_ hlt rfl fun ls' hv' => k H locs ls' hP hD hS (LV_st1 (v := vI (w32 (z + _))) hv')
      exact ((n_w32 _).trans (Int32.ofInt_add _ _)).symm
    · cases hc
  · cases hs
end STEP
