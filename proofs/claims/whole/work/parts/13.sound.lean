/-! SOUNDNESS of the whole interpreter: a run that answers is a method's contract. -/
theorem nocd : (List.range 366).all (fun k => (mwd k).1 == 9 || (decide (mcl k < 16) && hasb (cdl.getD k []) 0)) = true := by decide +kernel
theorem mcl_law : mcl 365 < 16 ∧ hasb (cdl.getD 365 []) 0 = true := by decide +kernel
theorem plainM : (List.range 365).all (fun k => (mwd k).1 == 9 || plainName (mT k).1.cls) = true := by decide +kernel
theorem ini_ret : (List.range 365).all (fun k => (mwd k).1 != 2 || decide ((mT k).2.2.2 = none)) = true := by decide +kernel
theorem hasb_in {b : Int} : ∀ {l : List (Int × List Instr)}, hasb l b = true → (b, fndb l b) ∈ l
  | [], h => by cases h
  | q :: l, h => by
    unfold hasb at h
    unfold fndb
    by_cases e : q.1 = b
    · rw [if_pos e, ← e]; exact List.mem_cons_self
    · rw [if_neg e]
      simp only [Bool.or_eq_true, decide_eq_true_eq] at h
      exact List.mem_cons_of_mem _ (hasb_in (h.resolve_left e))
def tgo (y : Nat) (is : List Instr) : Bool := is.all (fun i => (tgs i).all (fun b => hasb (cdl.getD y []) b))
theorem jmp_ok {y : Nat} {b : Int} (hy : y < 366) (h : hasb (cdl.getD y []) b = true) : 0 ≤ b ∧ chkL y (mT y).2.1 b.toNat (jmp y b) = true ∧ tgo y (jmp y b) = true := by
  have h1 : chkM y (mT y).2.1 (cdl.getD y []) = true := chkY_all hy
  have h2 := List.all_eq_true.mp h1 _ (hasb_in h)
  unfold chkB at h2
  simp only [Bool.and_eq_true, decide_eq_true_eq] at h2
  exact ⟨h2.1.1, h2.1.2, h2.2⟩
def isJsr (i : Instr) : Bool := match i with | .jsr _ => true | _ => false
theorem chkL_ok {y : Nat} {cc : ByteArray} {pc : Nat} {i : Instr} {is : List Instr} (h : chkL y cc pc (i :: is) = true) (hj : isJsr i = false) : ∃ raw ln, decode cc pc = .ok (raw, ln) ∧ chkI y raw i pc = true ∧ (isz raw == 0 || isz raw == ln) = true ∧ (isEnd i = true ∨ chkL y cc (pc + ln) is = true) := by
  unfold chkL at h
  split at h
  · cases hj
  · split at h
    · rename_i raw ln hd
      simp only [Bool.and_eq_true] at h
      exact ⟨raw, ln, hd, h.1.1, h.1.2, by simpa using h.2⟩
    · cases h
theorem tgo_tl {y : Nat} {i : Instr} {is : List Instr} (h : tgo y (i :: is) = true) : tgo y is = true := by
  unfold tgo at h ⊢
  rw [List.all_cons, Bool.and_eq_true] at h
  exact h.2
theorem tgo_hd {y : Nat} {i : Instr} {is : List Instr} (h : tgo y (i :: is) = true) : ∀ b ∈ tgs i, hasb (cdl.getD y []) b = true := by
  unfold tgo at h
  rw [List.all_cons, Bool.and_eq_true] at h
  exact List.all_eq_true.mp h.1
/-- a method's end -/
def QY (n0 : Nat) (ad0 adK : Nat → Nat) (D : va_G) (cA : Nat → ClassId) (A : Nat → Prop) (r : Option PV) (Sh' : List SE) (M' : Mem) : Array Value → State → Outcome → State → Prop := fun _ st oc t =>
  (∃ ad' : Nat → Nat, (∀ i, i < n0 → ad' i = ad0 i) ∧ oc = .returned (r.map (trv ad' adK)) ∧ va_P D kcl (wd cA ad' Sh' M') t.heap ∧ va_K D kcl (tyL cA) t ∧ va_D A (wd cA ad' Sh' M')) ∧ va_F A st t
/-- what a run owes -/
def OUTP (X : Int → Int) (SC : Prop) (y pc : Nat) (ls : PLS) (st : List PV) (Sh : List SE) (M : Mem) (r : Option PV) (Sh' : List SE) (M' : Mem) : Prop :=
  (okSh Sh' ∧ okM Sh' M' ∧ Sh.length ≤ Sh'.length ∧ ssz Sh ≤ ssz Sh' ∧ ∀ v, r = some v → okV SC Sh'.length v)
  ∧ ∀ (p : Program) (l : Launch) (e : Env) (R : Room) (s : State) (m : MethodId) (args : Array Value) (below : List Frame) (meth : Method) (c : Code) (D : va_G) (cA : Nat → ClassId) (adK adV : Nat → Nat) (A : Nat → Prop) (ad ad0 : Nat → Nat) (n0 cells slots mc ms : Nat),
    Cx X SC y p R s m args meth c D cA adK adV A → n0 ≤ Sh.length → (∀ i, i < n0 → ad i = ad0 i) → cells + (Sh'.length - Sh.length) = mc → slots + (ssz Sh' - ssz Sh) = ms → mc ≤ R.cells → ms ≤ R.slots →
    GG X SC y p l e R s m args below meth c D cA adK adV A (MQ below (QY n0 ad0 adK D cA A r Sh' M') args s mc ms A) ad cells slots pc ls st Sh M
def SND (X : Int → Int) (n : Nat) : Prop := ∀ (SC : Prop) (y : Nat) (is : List Instr) (ls : PLS) (st : List PV) (Sh : List SE) (M : Mem) (r : Option PV) (Sh' : List SE) (M' : Mem) (pc : Nat),
  run X n y is ls st Sh M = some (r, Sh', M') → y < 366 → C0 X SC y → chkL y (mT y).2.1 pc is = true → tgo y is = true → okL SC Sh.length ls → okS SC Sh.length st → okSh Sh → okM Sh M → ls.length = (mT y).2.2.1 → OUTP X SC y pc ls st Sh M r Sh' M'
/-! entry -/
theorem mkl_at {ad adK : Nat → Nat} : ∀ (args : List PV) (b k : Nat) (v : PV), lgt (mkl args) k = some v → (b + k, trv ad adK v) ∈ lv_args b (args.map (trv ad adK))
  | [], _, _, _, h => by cases h
  | w :: l, b, k, v, h => by
    rw [List.map_cons, lv_args]
    rcases w with z | z | q | j
    · -- int
      cases k with
      | zero =>
        have e : v = .inl z := (Option.some.inj (show some (Sum.inl z) = some v from h)).symm
        subst e
        exact List.mem_cons_self
      | succ k =>
        refine List.mem_cons_of_mem _ ?_
        have h1 := mkl_at (ad := ad) (adK := adK) l (b + 1) k v h
        rw [show b + (k + 1) = b + 1 + k by omega]
        exact h1
    · cases k with
      | zero =>
        have e : v = .inr (.inl z) := (Option.some.inj (show some (vL z) = some v from h)).symm
        subst e
        exact List.mem_cons_self
      | succ k =>
        cases k with
        | zero => cases (show (none : Option PV) = some v from h)
        | succ k =>
          refine List.mem_cons_of_mem _ ?_
          have h1 := mkl_at (ad := ad) (adK := adK) l (b + 2) k v h
          rw [show b + (k + 1 + 1) = b + 2 + k by omega]
          exact h1
    · cases k with
      | zero =>
        have e : v = .inr (.inr (.inl q)) := (Option.some.inj (show some (vR q) = some v from h)).symm
        subst e
        exact List.mem_cons_self
      | succ k =>
        refine List.mem_cons_of_mem _ ?_
        have h1 := mkl_at (ad := ad) (adK := adK) l (b + 1) k v h
        rw [show b + (k + 1) = b + 1 + k by omega]
        have hc : ¬ (trv ad adK (.inr (.inr (.inl q)))).category = 2 := fun hq => by
          obtain ⟨z, hz⟩ := (trv_cat ad adK _).mp hq
          cases hz
        rw [if_neg hc]
        exact h1
    · cases k with
      | zero =>
        have h2 : (if j < 21 then some (vS j) else none) = some v := h
        split at h2
        · have e : v = .inr (.inr (.inr j)) := (Option.some.inj h2).symm
          subst e
          exact List.mem_cons_self
        · cases h2
      | succ k =>
        refine List.mem_cons_of_mem _ ?_
        have h1 := mkl_at (ad := ad) (adK := adK) l (b + 1) k v h
        rw [show b + (k + 1) = b + 1 + k by omega]
        exact h1
theorem mkl_len {ad adK : Nat → Nat} : ∀ (args : List PV), (lg_sl (args.map (trv ad adK))).length = (mkl args).length
  | [] => rfl
  | w :: l => by
    have ih := mkl_len (ad := ad) (adK := adK) l
    unfold lg_sl at ih ⊢
    rw [List.map_cons, List.flatMap_cons, List.length_append, ih]
    rcases w with z | z | q | j
    · rw [if_neg (fun hq => by obtain ⟨z2, hz⟩ := (trv_cat ad adK _).mp hq; cases hz)]
      show 1 + _ = (some (Sum.inl z) :: mkl l).length
      rw [List.length_cons]; omega
    · rw [if_pos ((trv_cat ad adK _).mpr ⟨z, rfl⟩)]
      show 2 + _ = (some (vL z) :: none :: mkl l).length
      simp only [List.length_cons]; omega
    · rw [if_neg (fun hq => by obtain ⟨z2, hz⟩ := (trv_cat ad adK _).mp hq; cases hz)]
      show 1 + _ = (some (vR q) :: mkl l).length
      rw [List.length_cons]; omega
    · rw [if_neg (fun hq => by obtain ⟨z2, hz⟩ := (trv_cat ad adK _).mp hq; cases hz)]
      show 1 + _ = ((if j < 21 then some (vS j) else none) :: mkl l).length
      rw [List.length_cons]; omega
theorem lgt_app {l l2 : PLS} {k : Nat} {v : PV} (h : lgt (l ++ l2) k = some v) : lgt l k = some v ∨ ∃ j, lgt l2 j = some v := by
  induction l generalizing k with
  | nil => exact Or.inr ⟨k, h⟩
  | cons o l ih => cases k with
    | zero => exact Or.inl h
    | succ k => exact ih (k := k) h
theorem lgt_rep {n k : Nat} {v : PV} : ¬ lgt (List.replicate n none) k = some v := by
  induction n generalizing k with
  | zero => intro h; cases h
  | succ n ih => cases k with
    | zero => intro h; cases h
    | succ k => exact ih (k := k)
theorem mkls_at {k j : Nat} {args : List PV} {v : PV} (h : lgt (mkls k args) j = some v) : lgt (mkl args) j = some v := by
  rcases lgt_app h with h1 | ⟨j2, h1⟩
  · exact h1
  · exact absurd h1 lgt_rep
theorem mkls_len {k : Nat} {args : List PV} (h : (mkl args).length ≤ (mT k).2.2.1) : (mkls k args).length = (mT k).2.2.1 := by
  unfold mkls
  rw [List.length_append, List.length_replicate]
  omega
theorem okL_mkl {SC : Prop} {n : Nat} : ∀ {args : List PV}, okS SC n args → ∀ (k : Nat) (v : PV), lgt (mkl args) k = some v → okV False n v
  | [], _, _, _, h => by cases h
  | w :: l, hs, k, v, h => by
    rcases w with z | z | q | j
    · cases k with
      | zero => cases (show some (Sum.inl z) = some v from h); exact hs.hd
      | succ k => exact okL_mkl hs.tl k v h
    · cases k with
      | zero => cases (show some (vL z) = some v from h); exact hs.hd
      | succ k => cases k with
        | zero => cases (show (none : Option PV) = some v from h)
        | succ k => exact okL_mkl hs.tl k v h
    · cases k with
      | zero =>
        cases (show some (vR q) = some v from h)
        have h2 := hs.hd
        cases q with
        | none => trivial
        | some a => exact h2
      | succ k => exact okL_mkl hs.tl k v h
    · cases k with
      | zero =>
        have h2 : (if j < 21 then some (vS j) else none) = some v := h
        split at h2
        · rename_i hj
          cases h2
          exact Or.inl hj
        · cases h2
      | succ k => exact okL_mkl hs.tl k v h
theorem okV_F {SC : Prop} {n : Nat} {v : PV} (h : okV False n v) : okV SC n v := by
  rcases v with z | z | q | j
  · exact h
  · exact h
  · cases q <;> exact h
  · rcases h with h | h
    · exact Or.inl h
    · exact h.2.elim
/-! a call, and what is behind it -/
theorem va_go {p : Program} {l : Launch} {e : Env} {R : Room} {s : State} {m : MethodId} {args : Array Value} {below : List Frame} {meth : Method} {c : Code} {H : Heap} {locs : List Loc} {cells slots mc ms pc : Nat} {lsA : Array Slot} {st0 rest : List Value} {a : Array Value} {free A1 A : Nat → Prop} {Q : State → Prop} {n0 : Nat} {ad0 adK : Nat → Nat} {D : va_G} {cA : Nat → ClassId} {r : Option PV} {Sh' : List SE} {M' : Mem}
    (hr : va_Run p l e R s m args below meth c H locs cells slots mc ms (F0 m pc lsA st0) rest (QY n0 ad0 adK D cA A1 r Sh' M' a) free) (hS : va_S A s.heap H locs) (hA : ∀ q, q < H.size → A1 q → A q) (hf : ∀ q, free q → A q)
    (kk : ∀ (ad' : Nat → Nat) (H1 : Heap) (locs1 : List Loc), (∀ i, i < n0 → ad' i = ad0 i) → va_P D kcl (wd cA ad' Sh' M') H1 → va_D A1 (wd cA ad' Sh' M') → va_S A s.heap H1 locs1 → W p l e R s m args below meth c H1 locs1 (cells + mc) (slots + ms) Q (F0 m (pc + 3) lsA ((r.map (trv ad' adK)).toList ++ rest))) : W p l e R s m args below meth c H locs cells slots Q (F0 m pc lsA st0) := by
  intro T hT X
  obtain ⟨v, st₀, t, T', L, h0, X', hL, e1, e2, ⟨⟨ad', hag, hv, hP, hK, hD⟩, hz, hk⟩, st⟩ := hr T hT X
  have hv2 : v = r.map (trv ad' adK) := Outcome.returned.inj hv
  subst hv2
  rw [h0] at hz hk
  obtain ⟨t2, a1, b1⟩ := kk ad' T'.heap (locs ++ L) hag (by rw [e1]; exact hP) hD
    ⟨Nat.le_trans hS.1 (by rw [e1]; exact hz), fun q h1 h2 => by rw [e1, hk q (Nat.lt_of_lt_of_le h1 hS.1) (fun z => h2 (hA q (Nat.lt_of_lt_of_le h1 hS.1) z))]; exact hS.2.1 q h1 h2, fun q hq => by
      rcases List.mem_append.mp hq with h | h
      · exact hS.2.2 q h
      · exact hf _ (hL q h)⟩ T' rfl X'
  exact ⟨t2, st t2 a1, b1⟩
/-- the contract's start -/
def PW (sz : Nat) (ad adK adV : Nat → Nat) (D : va_G) (cA : Nat → ClassId) (Sh : List SE) (M : Mem) : State → Prop := fun U =>
  U.heap.size = sz ∧ va_P D kcl (wd cA ad Sh M) U.heap ∧ va_K D kcl (tyL cA) U ∧ va_D (fun _ => True) (wd cA ad Sh M) ∧ PSs adK adV (va_A (wd cA ad Sh M) sz) U U.heap ∧ PRs adK U
def rmY (k mc ms : Nat) : Room := { frames := mdep k, cells := mc, slots := ms, locals := 30 * mdep k }
theorem mcl_eq {k : Nat} (hk : k < 365) (h : mcl k < 16) : cid (mcl k) = (mT k).1.cls := by
  have h1 := List.all_eq_true.mp mcl_ok k (List.mem_range.mpr (by omega))
  simp only [Bool.or_eq_true, beq_iff_eq, decide_eq_true_eq] at h1
  exact h1.resolve_left (by omega)
set_option maxHeartbeats 4000000 in
/-- a run of a method is its contract -/
theorem met_of {X : Int → Int} {n : Nat} (ih : SND X n) {k : Nat} {argv : List PV} {Sh : List SE} {M : Mem} {r : Option PV} {Sh' : List SE} {M' : Mem} (hr : run X n k (jmp k 0) (mkls k argv) [] Sh M = some (r, Sh', M')) (hk : k < 365) (hk9 : (mwd k).1 ≠ 9) (hlen : (mkl argv).length ≤ (mT k).2.2.1) (hargs : ∀ (j : Nat) (v : PV), lgt (mkl argv) j = some v → okV False Sh.length v) (hSh : okSh Sh) (hM : okM Sh M) (l : Launch) (D : va_G) (cA : Nat → ClassId) (ad adK adV : Nat → Nat) (sz : Nat) :
    Met l (mT k).1 (wsY k) (rmY k (Sh'.length - Sh.length) (ssz Sh' - ssz Sh)) (va_Pc (argv.map (trv ad adK)) (PW sz ad adK adV D cA Sh M)) (QY Sh.length ad adK D cA (va_A (wd cA ad Sh M) sz) r Sh' M') (Sh'.length - Sh.length) (ssz Sh' - ssz Sh) (va_A (wd cA ad Sh M) sz) := by
  have h9 := List.all_eq_true.mp nocd k (List.mem_range.mpr (by omega))
  simp only [Bool.or_eq_true, beq_iff_eq, Bool.and_eq_true, decide_eq_true_eq] at h9
  obtain ⟨hcl, hb0⟩ := h9.resolve_left hk9
  have hpl := List.all_eq_true.mp plainM k (List.mem_range.mpr hk)
  simp only [Bool.or_eq_true, beq_iff_eq] at hpl
  obtain ⟨-, hch, htg⟩ := jmp_ok (y := k) (b := 0) (by omega) hb0
  have hS := ih False k (jmp k 0) (mkls k argv) [] Sh M r Sh' M' 0 hr (by omega) ⟨hcl, fun h => h.elim⟩ hch htg (fun j v hv => hargs j v (mkls_at hv)) (fun v hv => by cases hv) hSh hM (mkls_len hlen)
  refine Met.ofW (cc := (mT k).2.1) (maxL := (mT k).2.2.1) (ret := (mT k).2.2.2) (hpl.resolve_left hk9) rfl ?_
  intro p e s m args below meth c s₁ B hml hv
  obtain ⟨rfl, hsz, hP, hK, hD0, hPS, hPR⟩ := hv
  have hts := atoms_spec (ws := wsY k) B.pre
  have hown : s.vm.findClass (mT k).1.cls = some m.cls := findClass_of_methodNamed B.named
  have hnm : meth.name = (mT k).1.name := (name_of_methodNamed B.named B.method).1
  subst hsz
  have hD := hD0.self (sz := s.heap.size)
  have C : Cx X False k p (headSpec (wsY k) (rmY k (Sh'.length - Sh.length) (ssz Sh' - ssz Sh))).room s m (argv.map (trv ad adK)).toArray meth c D cA adK adV (va_A (wd cA ad Sh M) s.heap.size) :=
    ⟨B.exec, B.bytes, B.returns, hml, by rw [mcl_eq hk hcl]; exact hown, fun w hw => hts w (List.mem_cons_of_mem _ hw), B.notSynchronized, fun h => hnm.trans h, hK, fun q hq => Or.inr hq, hPS, hPR, fun h => h.elim, Nat.le_refl _, Nat.le_refl _, hcl⟩
  have hG := hS.2 p l e _ s m _ below meth c D cA adK adV _ ad ad Sh.length 0 0 _ _ C (Nat.le_refl _) (fun _ _ => rfl) (Nat.zero_add _) (Nat.zero_add _) (Nat.le_refl _) (Nat.le_refl _)
  rw [lg_entry_eq]
  have hl := lv_entry (argv.map (trv ad adK)) (n := (mT k).2.2.1) (by rw [mkl_len]; exact hlen)
  refine hG s.heap [] _ hP hD va_S.rf (lvh_mono hl fun q hq => ?_)
  obtain ⟨v, h1, h2⟩ := LV_mem.mp hq
  have h3 := mkl_at (ad := ad) (adK := adK) argv 0 q.1 v (mkls_at h1)
  rw [Nat.zero_add, ← h2] at h3
  exact h3
section CTLS
variable {X : Int → Int} {SC : Prop} {y pc ln n : Nat} {ls : PLS} {st : List PV} {Sh Sh' : List SE} {M M' : Mem} {r : Option PV} {raw : Instr} {is : List Instr} {b : Int} {v u : Int}
theorem out_same {pc' : Nat} {st' : List PV} (h : OUTP X SC y pc' ls st' Sh M r Sh' M') (hW : ∀ (p : Program) (l : Launch) (e : Env) (R : Room) (s : State) (m : MethodId) (args : Array Value) (below : List Frame) (meth : Method) (c : Code) (D : va_G) (cA : Nat → ClassId) (adK adV : Nat → Nat) (A : Nat → Prop) (ad ad0 : Nat → Nat) (n0 cells slots mc ms : Nat), Cx X SC y p R s m args meth c D cA adK adV A → GG X SC y p l e R s m args below meth c D cA adK adV A (MQ below (QY n0 ad0 adK D cA A r Sh' M') args s mc ms A) ad cells slots pc' ls st' Sh M → GG X SC y p l e R s m args below meth c D cA adK adV A (MQ below (QY n0 ad0 adK D cA A r Sh' M') args s mc ms A) ad cells slots pc ls st Sh M) : OUTP X SC y pc ls st Sh M r Sh' M' :=
  ⟨h.1, fun p l e R s m args below meth c D cA adK adV A ad ad0 n0 cells slots mc ms C h1 h2 h3 h4 h5 h6 => hW p l e R s m args below meth c D cA adK adV A ad ad0 n0 cells slots mc ms C (h.2 p l e R s m args below meth c D cA adK adV A ad ad0 n0 cells slots mc ms C h1 h2 h3 h4 h5 h6)⟩
theorem tg_of {off : Int} (h : (decide ((pc : Int) + off = b) && decide (0 ≤ b)) = true) : (pc : Int) + off = ((b.toNat : Nat) : Int) := by
  simp only [Bool.and_eq_true, decide_eq_true_eq] at h
  rw [h.1, Int.toNat_of_nonneg h.2]
theorem o_goto (hd : decode (mT y).2.1 pc = .ok (raw, ln)) (hz : (isz raw == 0 || isz raw == ln) = true) (hc : chkI y raw (.goto b) pc = true) (h : OUTP X SC y b.toNat ls st Sh M r Sh' M') : OUTP X SC y pc ls st Sh M r Sh' M' := by
  simp only [chkI] at hc
  split at hc
  · have ht := tg_of hc
    obtain rfl := ln_of hz rfl (n := 3) rfl (by decide)
    refine out_same h fun p l e R s m args below meth c D cA adK adV A ad ad0 n0 cells slots mc ms C g H locs lsA hP hD hS hv => ?_
    exact lv_goto C.1 C.2.1 hd ht (g H locs lsA hP hD hS hv)
  · cases hc
theorem o_icmp_eq (hu : -2147483648 ≤ u ∧ u < 2147483648) (hvv : -2147483648 ≤ v ∧ v < 2147483648) (hd : decode (mT y).2.1 pc = .ok (raw, ln)) (hz : (isz raw == 0 || isz raw == ln) = true) (hc : chkI y raw (.if_icmp .eq b) pc = true) : (u = v → OUTP X SC y b.toNat ls st Sh M r Sh' M' → OUTP X SC y pc ls (vI v :: vI u :: st) Sh M r Sh' M') ∧ (¬ (u = v) → OUTP X SC y (pc + ln) ls st Sh M r Sh' M' → OUTP X SC y pc ls (vI v :: vI u :: st) Sh M r Sh' M') := by
  simp only [chkI] at hc
  split at hc
  · rename_i c2 off
    simp only [Bool.and_eq_true, decide_eq_true_eq] at hc
    obtain ⟨rfl, h1, h2⟩ := hc
    have ht : (pc : Int) + off = ((b.toNat : Nat) : Int) := by rw [h1, Int.toNat_of_nonneg h2]
    obtain rfl := ln_of hz rfl (n := 3) rfl (by decide)
    refine ⟨fun hq h => ?_, fun hq h => ?_⟩
    · refine out_same h fun p l e R s m args below meth c D cA adK adV A ad ad0 n0 cells slots mc ms C g H locs lsA hP hD hS hv => ?_
      exact lv_icmp_eq C.1 C.2.1 hd ht (fun _ => g H locs lsA hP hD hS hv) (fun q => absurd ((n_eq hu hvv).mpr hq) q)
    · refine out_same h fun p l e R s m args below meth c D cA adK adV A ad ad0 n0 cells slots mc ms C g H locs lsA hP hD hS hv => ?_
      exact lv_icmp_eq C.1 C.2.1 hd ht (fun q => absurd ((n_eq hu hvv).mp q) hq) (fun _ => g H locs lsA hP hD hS hv)
  · cases hc
theorem o_if_eq (hu : -2147483648 ≤ u ∧ u < 2147483648) (hd : decode (mT y).2.1 pc = .ok (raw, ln)) (hz : (isz raw == 0 || isz raw == ln) = true) (hc : chkI y raw (.ifCond .eq b) pc = true) : (u = 0 → OUTP X SC y b.toNat ls st Sh M r Sh' M' → OUTP X SC y pc ls (vI u :: st) Sh M r Sh' M') ∧ (¬ (u = 0) → OUTP X SC y (pc + ln) ls st Sh M r Sh' M' → OUTP X SC y pc ls (vI u :: st) Sh M r Sh' M') := by
  simp only [chkI] at hc
  split at hc
  · rename_i c2 off
    simp only [Bool.and_eq_true, decide_eq_true_eq] at hc
    obtain ⟨rfl, h1, h2⟩ := hc
    have ht : (pc : Int) + off = ((b.toNat : Nat) : Int) := by rw [h1, Int.toNat_of_nonneg h2]
    obtain rfl := ln_of hz rfl (n := 3) rfl (by decide)
    refine ⟨fun hq h => ?_, fun hq h => ?_⟩
    · refine out_same h fun p l e R s m args below meth c D cA adK adV A ad ad0 n0 cells slots mc ms C g H locs lsA hP hD hS hv => ?_
      exact lv_if_eq C.1 C.2.1 hd ht (fun _ => g H locs lsA hP hD hS hv) (fun q => absurd ((n_eq hu (by omega : (-2147483648 : Int) ≤ 0 ∧ (0 : Int) < 2147483648)).mpr hq) q)
    · refine out_same h fun p l e R s m args below meth c D cA adK adV A ad ad0 n0 cells slots mc ms C g H locs lsA hP hD hS hv => ?_
      exact lv_if_eq C.1 C.2.1 hd ht (fun q => absurd ((n_eq hu (by omega : (-2147483648 : Int) ≤ 0 ∧ (0 : Int) < 2147483648)).mp q) hq) (fun _ => g H locs lsA hP hD hS hv)
  · cases hc
theorem o_icmp_ne (hu : -2147483648 ≤ u ∧ u < 2147483648) (hvv : -2147483648 ≤ v ∧ v < 2147483648) (hd : decode (mT y).2.1 pc = .ok (raw, ln)) (hz : (isz raw == 0 || isz raw == ln) = true) (hc : chkI y raw (.if_icmp .ne b) pc = true) : (u ≠ v → OUTP X SC y b.toNat ls st Sh M r Sh' M' → OUTP X SC y pc ls (vI v :: vI u :: st) Sh M r Sh' M') ∧ (¬ (u ≠ v) → OUTP X SC y (pc + ln) ls st Sh M r Sh' M' → OUTP X SC y pc ls (vI v :: vI u :: st) Sh M r Sh' M') := by
  simp only [chkI] at hc
  split at hc
  · rename_i c2 off
    simp only [Bool.and_eq_true, decide_eq_true_eq] at hc
    obtain ⟨rfl, h1, h2⟩ := hc
    have ht : (pc : Int) + off = ((b.toNat : Nat) : Int) := by rw [h1, Int.toNat_of_nonneg h2]
    obtain rfl := ln_of hz rfl (n := 3) rfl (by decide)
    refine ⟨fun hq h => ?_, fun hq h => ?_⟩
    · refine out_same h fun p l e R s m args below meth c D cA adK adV A ad ad0 n0 cells slots mc ms C g H locs lsA hP hD hS hv => ?_
      exact lv_icmp_ne C.1 C.2.1 hd ht (fun _ => g H locs lsA hP hD hS hv) (fun q => absurd ((n_eq hu hvv).mp q) hq)
    · refine out_same h fun p l e R s m args below meth c D cA adK adV A ad ad0 n0 cells slots mc ms C g H locs lsA hP hD hS hv => ?_
      exact lv_icmp_ne C.1 C.2.1 hd ht (fun q => absurd ((n_eq hu hvv).mpr (Decidable.not_not.mp hq)) q) (fun _ => g H locs lsA hP hD hS hv)
  · cases hc
theorem o_if_ne (hu : -2147483648 ≤ u ∧ u < 2147483648) (hd : decode (mT y).2.1 pc = .ok (raw, ln)) (hz : (isz raw == 0 || isz raw == ln) = true) (hc : chkI y raw (.ifCond .ne b) pc = true) : (u ≠ 0 → OUTP X SC y b.toNat ls st Sh M r Sh' M' → OUTP X SC y pc ls (vI u :: st) Sh M r Sh' M') ∧ (¬ (u ≠ 0) → OUTP X SC y (pc + ln) ls st Sh M r Sh' M' → OUTP X SC y pc ls (vI u :: st) Sh M r Sh' M') := by
  simp only [chkI] at hc
  split at hc
  · rename_i c2 off
    simp only [Bool.and_eq_true, decide_eq_true_eq] at hc
    obtain ⟨rfl, h1, h2⟩ := hc
    have ht : (pc : Int) + off = ((b.toNat : Nat) : Int) := by rw [h1, Int.toNat_of_nonneg h2]
    obtain rfl := ln_of hz rfl (n := 3) rfl (by decide)
    refine ⟨fun hq h => ?_, fun hq h => ?_⟩
    · refine out_same h fun p l e R s m args below meth c D cA adK adV A ad ad0 n0 cells slots mc ms C g H locs lsA hP hD hS hv => ?_
      exact lv_if_ne C.1 C.2.1 hd ht (fun _ => g H locs lsA hP hD hS hv) (fun q => absurd ((n_eq hu (by omega : (-2147483648 : Int) ≤ 0 ∧ (0 : Int) < 2147483648)).mp q) hq)
    · refine out_same h fun p l e R s m args below meth c D cA adK adV A ad ad0 n0 cells slots mc ms C g H locs lsA hP hD hS hv => ?_
      exact lv_if_ne C.1 C.2.1 hd ht (fun q => absurd ((n_eq hu (by omega : (-2147483648 : Int) ≤ 0 ∧ (0 : Int) < 2147483648)).mpr (Decidable.not_not.mp hq)) q) (fun _ => g H locs lsA hP hD hS hv)
  · cases hc
theorem o_icmp_lt (hu : -2147483648 ≤ u ∧ u < 2147483648) (hvv : -2147483648 ≤ v ∧ v < 2147483648) (hd : decode (mT y).2.1 pc = .ok (raw, ln)) (hz : (isz raw == 0 || isz raw == ln) = true) (hc : chkI y raw (.if_icmp .lt b) pc = true) : (u < v → OUTP X SC y b.toNat ls st Sh M r Sh' M' → OUTP X SC y pc ls (vI v :: vI u :: st) Sh M r Sh' M') ∧ (¬ (u < v) → OUTP X SC y (pc + ln) ls st Sh M r Sh' M' → OUTP X SC y pc ls (vI v :: vI u :: st) Sh M r Sh' M') := by
  simp only [chkI] at hc
  split at hc
  · rename_i c2 off
    simp only [Bool.and_eq_true, decide_eq_true_eq] at hc
    obtain ⟨rfl, h1, h2⟩ := hc
    have ht : (pc : Int) + off = ((b.toNat : Nat) : Int) := by rw [h1, Int.toNat_of_nonneg h2]
    obtain rfl := ln_of hz rfl (n := 3) rfl (by decide)
    refine ⟨fun hq h => ?_, fun hq h => ?_⟩
    · refine out_same h fun p l e R s m args below meth c D cA adK adV A ad ad0 n0 cells slots mc ms C g H locs lsA hP hD hS hv => ?_
      exact lv_icmp_lt C.1 C.2.1 hd ht (fun _ => g H locs lsA hP hD hS hv) (fun q => absurd ((n_lt hu hvv).mpr hq) q)
    · refine out_same h fun p l e R s m args below meth c D cA adK adV A ad ad0 n0 cells slots mc ms C g H locs lsA hP hD hS hv => ?_
      exact lv_icmp_lt C.1 C.2.1 hd ht (fun q => absurd ((n_lt hu hvv).mp q) hq) (fun _ => g H locs lsA hP hD hS hv)
  · cases hc
theorem o_if_lt (hu : -2147483648 ≤ u ∧ u < 2147483648) (hd : decode (mT y).2.1 pc = .ok (raw, ln)) (hz : (isz raw == 0 || isz raw == ln) = true) (hc : chkI y raw (.ifCond .lt b) pc = true) : (u < 0 → OUTP X SC y b.toNat ls st Sh M r Sh' M' → OUTP X SC y pc ls (vI u :: st) Sh M r Sh' M') ∧ (¬ (u < 0) → OUTP X SC y (pc + ln) ls st Sh M r Sh' M' → OUTP X SC y pc ls (vI u :: st) Sh M r Sh' M') := by
  simp only [chkI] at hc
  split at hc
  · rename_i c2 off
    simp only [Bool.and_eq_true, decide_eq_true_eq] at hc
    obtain ⟨rfl, h1, h2⟩ := hc
    have ht : (pc : Int) + off = ((b.toNat : Nat) : Int) := by rw [h1, Int.toNat_of_nonneg h2]
    obtain rfl := ln_of hz rfl (n := 3) rfl (by decide)
    refine ⟨fun hq h => ?_, fun hq h => ?_⟩
    · refine out_same h fun p l e R s m args below meth c D cA adK adV A ad ad0 n0 cells slots mc ms C g H locs lsA hP hD hS hv => ?_
      exact lv_if_lt C.1 C.2.1 hd ht (fun _ => g H locs lsA hP hD hS hv) (fun q => absurd ((n_lt hu (by omega : (-2147483648 : Int) ≤ 0 ∧ (0 : Int) < 2147483648)).mpr hq) q)
    · refine out_same h fun p l e R s m args below meth c D cA adK adV A ad ad0 n0 cells slots mc ms C g H locs lsA hP hD hS hv => ?_
      exact lv_if_lt C.1 C.2.1 hd ht (fun q => absurd ((n_lt hu (by omega : (-2147483648 : Int) ≤ 0 ∧ (0 : Int) < 2147483648)).mp q) hq) (fun _ => g H locs lsA hP hD hS hv)
  · cases hc
theorem o_icmp_ge (hu : -2147483648 ≤ u ∧ u < 2147483648) (hvv : -2147483648 ≤ v ∧ v < 2147483648) (hd : decode (mT y).2.1 pc = .ok (raw, ln)) (hz : (isz raw == 0 || isz raw == ln) = true) (hc : chkI y raw (.if_icmp .ge b) pc = true) : (v ≤ u → OUTP X SC y b.toNat ls st Sh M r Sh' M' → OUTP X SC y pc ls (vI v :: vI u :: st) Sh M r Sh' M') ∧ (¬ (v ≤ u) → OUTP X SC y (pc + ln) ls st Sh M r Sh' M' → OUTP X SC y pc ls (vI v :: vI u :: st) Sh M r Sh' M') := by
  simp only [chkI] at hc
  split at hc
  · rename_i c2 off
    simp only [Bool.and_eq_true, decide_eq_true_eq] at hc
    obtain ⟨rfl, h1, h2⟩ := hc
    have ht : (pc : Int) + off = ((b.toNat : Nat) : Int) := by rw [h1, Int.toNat_of_nonneg h2]
    obtain rfl := ln_of hz rfl (n := 3) rfl (by decide)
    refine ⟨fun hq h => ?_, fun hq h => ?_⟩
    · refine out_same h fun p l e R s m args below meth c D cA adK adV A ad ad0 n0 cells slots mc ms C g H locs lsA hP hD hS hv => ?_
      exact lv_icmp_ge C.1 C.2.1 hd ht (fun _ => g H locs lsA hP hD hS hv) (fun q => absurd ((n_le hvv hu).mpr hq) q)
    · refine out_same h fun p l e R s m args below meth c D cA adK adV A ad ad0 n0 cells slots mc ms C g H locs lsA hP hD hS hv => ?_
      exact lv_icmp_ge C.1 C.2.1 hd ht (fun q => absurd ((n_le hvv hu).mp q) hq) (fun _ => g H locs lsA hP hD hS hv)
  · cases hc
theorem o_if_ge (hu : -2147483648 ≤ u ∧ u < 2147483648) (hd : decode (mT y).2.1 pc = .ok (raw, ln)) (hz : (isz raw == 0 || isz raw == ln) = true) (hc : chkI y raw (.ifCond .ge b) pc = true) : (0 ≤ u → OUTP X SC y b.toNat ls st Sh M r Sh' M' → OUTP X SC y pc ls (vI u :: st) Sh M r Sh' M') ∧ (¬ (0 ≤ u) → OUTP X SC y (pc + ln) ls st Sh M r Sh' M' → OUTP X SC y pc ls (vI u :: st) Sh M r Sh' M') := by
  simp only [chkI] at hc
  split at hc
  · rename_i c2 off
    simp only [Bool.and_eq_true, decide_eq_true_eq] at hc
    obtain ⟨rfl, h1, h2⟩ := hc
    have ht : (pc : Int) + off = ((b.toNat : Nat) : Int) := by rw [h1, Int.toNat_of_nonneg h2]
    obtain rfl := ln_of hz rfl (n := 3) rfl (by decide)
    refine ⟨fun hq h => ?_, fun hq h => ?_⟩
    · refine out_same h fun p l e R s m args below meth c D cA adK adV A ad ad0 n0 cells slots mc ms C g H locs lsA hP hD hS hv => ?_
      exact lv_if_ge C.1 C.2.1 hd ht (fun _ => g H locs lsA hP hD hS hv) (fun q => absurd ((n_le (by omega : (-2147483648 : Int) ≤ 0 ∧ (0 : Int) < 2147483648) hu).mpr hq) q)
    · refine out_same h fun p l e R s m args below meth c D cA adK adV A ad ad0 n0 cells slots mc ms C g H locs lsA hP hD hS hv => ?_
      exact lv_if_ge C.1 C.2.1 hd ht (fun q => absurd ((n_le (by omega : (-2147483648 : Int) ≤ 0 ∧ (0 : Int) < 2147483648) hu).mp q) hq) (fun _ => g H locs lsA hP hD hS hv)
  · cases hc
theorem o_icmp_gt (hu : -2147483648 ≤ u ∧ u < 2147483648) (hvv : -2147483648 ≤ v ∧ v < 2147483648) (hd : decode (mT y).2.1 pc = .ok (raw, ln)) (hz : (isz raw == 0 || isz raw == ln) = true) (hc : chkI y raw (.if_icmp .gt b) pc = true) : (v < u → OUTP X SC y b.toNat ls st Sh M r Sh' M' → OUTP X SC y pc ls (vI v :: vI u :: st) Sh M r Sh' M') ∧ (¬ (v < u) → OUTP X SC y (pc + ln) ls st Sh M r Sh' M' → OUTP X SC y pc ls (vI v :: vI u :: st) Sh M r Sh' M') := by
  simp only [chkI] at hc
  split at hc
  · rename_i c2 off
    simp only [Bool.and_eq_true, decide_eq_true_eq] at hc
    obtain ⟨rfl, h1, h2⟩ := hc
    have ht : (pc : Int) + off = ((b.toNat : Nat) : Int) := by rw [h1, Int.toNat_of_nonneg h2]
    obtain rfl := ln_of hz rfl (n := 3) rfl (by decide)
    refine ⟨fun hq h => ?_, fun hq h => ?_⟩
    · refine out_same h fun p l e R s m args below meth c D cA adK adV A ad ad0 n0 cells slots mc ms C g H locs lsA hP hD hS hv => ?_
      exact lv_icmp_gt C.1 C.2.1 hd ht (fun _ => g H locs lsA hP hD hS hv) (fun q => absurd ((n_lt hvv hu).mpr hq) q)
    · refine out_same h fun p l e R s m args below meth c D cA adK adV A ad ad0 n0 cells slots mc ms C g H locs lsA hP hD hS hv => ?_
      exact lv_icmp_gt C.1 C.2.1 hd ht (fun q => absurd ((n_lt hvv hu).mp q) hq) (fun _ => g H locs lsA hP hD hS hv)
  · cases hc
theorem o_if_gt (hu : -2147483648 ≤ u ∧ u < 2147483648) (hd : decode (mT y).2.1 pc = .ok (raw, ln)) (hz : (isz raw == 0 || isz raw == ln) = true) (hc : chkI y raw (.ifCond .gt b) pc = true) : (0 < u → OUTP X SC y b.toNat ls st Sh M r Sh' M' → OUTP X SC y pc ls (vI u :: st) Sh M r Sh' M') ∧ (¬ (0 < u) → OUTP X SC y (pc + ln) ls st Sh M r Sh' M' → OUTP X SC y pc ls (vI u :: st) Sh M r Sh' M') := by
  simp only [chkI] at hc
  split at hc
  · rename_i c2 off
    simp only [Bool.and_eq_true, decide_eq_true_eq] at hc
    obtain ⟨rfl, h1, h2⟩ := hc
    have ht : (pc : Int) + off = ((b.toNat : Nat) : Int) := by rw [h1, Int.toNat_of_nonneg h2]
    obtain rfl := ln_of hz rfl (n := 3) rfl (by decide)
    refine ⟨fun hq h => ?_, fun hq h => ?_⟩
    · refine out_same h fun p l e R s m args below meth c D cA adK adV A ad ad0 n0 cells slots mc ms C g H locs lsA hP hD hS hv => ?_
      exact lv_if_gt C.1 C.2.1 hd ht (fun _ => g H locs lsA hP hD hS hv) (fun q => absurd ((n_lt (by omega : (-2147483648 : Int) ≤ 0 ∧ (0 : Int) < 2147483648) hu).mpr hq) q)
    · refine out_same h fun p l e R s m args below meth c D cA adK adV A ad ad0 n0 cells slots mc ms C g H locs lsA hP hD hS hv => ?_
      exact lv_if_gt C.1 C.2.1 hd ht (fun q => absurd ((n_lt (by omega : (-2147483648 : Int) ≤ 0 ∧ (0 : Int) < 2147483648) hu).mp q) hq) (fun _ => g H locs lsA hP hD hS hv)
  · cases hc
theorem o_icmp_le (hu : -2147483648 ≤ u ∧ u < 2147483648) (hvv : -2147483648 ≤ v ∧ v < 2147483648) (hd : decode (mT y).2.1 pc = .ok (raw, ln)) (hz : (isz raw == 0 || isz raw == ln) = true) (hc : chkI y raw (.if_icmp .le b) pc = true) : (u ≤ v → OUTP X SC y b.toNat ls st Sh M r Sh' M' → OUTP X SC y pc ls (vI v :: vI u :: st) Sh M r Sh' M') ∧ (¬ (u ≤ v) → OUTP X SC y (pc + ln) ls st Sh M r Sh' M' → OUTP X SC y pc ls (vI v :: vI u :: st) Sh M r Sh' M') := by
  simp only [chkI] at hc
  split at hc
  · rename_i c2 off
    simp only [Bool.and_eq_true, decide_eq_true_eq] at hc
    obtain ⟨rfl, h1, h2⟩ := hc
    have ht : (pc : Int) + off = ((b.toNat : Nat) : Int) := by rw [h1, Int.toNat_of_nonneg h2]
    obtain rfl := ln_of hz rfl (n := 3) rfl (by decide)
    refine ⟨fun hq h => ?_, fun hq h => ?_⟩
    · refine out_same h fun p l e R s m args below meth c D cA adK adV A ad ad0 n0 cells slots mc ms C g H locs lsA hP hD hS hv => ?_
      exact lv_icmp_le C.1 C.2.1 hd ht (fun _ => g H locs lsA hP hD hS hv) (fun q => absurd ((n_le hu hvv).mpr hq) q)
    · refine out_same h fun p l e R s m args below meth c D cA adK adV A ad ad0 n0 cells slots mc ms C g H locs lsA hP hD hS hv => ?_
      exact lv_icmp_le C.1 C.2.1 hd ht (fun q => absurd ((n_le hu hvv).mp q) hq) (fun _ => g H locs lsA hP hD hS hv)
  · cases hc
theorem o_if_le (hu : -2147483648 ≤ u ∧ u < 2147483648) (hd : decode (mT y).2.1 pc = .ok (raw, ln)) (hz : (isz raw == 0 || isz raw == ln) = true) (hc : chkI y raw (.ifCond .le b) pc = true) : (u ≤ 0 → OUTP X SC y b.toNat ls st Sh M r Sh' M' → OUTP X SC y pc ls (vI u :: st) Sh M r Sh' M') ∧ (¬ (u ≤ 0) → OUTP X SC y (pc + ln) ls st Sh M r Sh' M' → OUTP X SC y pc ls (vI u :: st) Sh M r Sh' M') := by
  simp only [chkI] at hc
  split at hc
  · rename_i c2 off
    simp only [Bool.and_eq_true, decide_eq_true_eq] at hc
    obtain ⟨rfl, h1, h2⟩ := hc
    have ht : (pc : Int) + off = ((b.toNat : Nat) : Int) := by rw [h1, Int.toNat_of_nonneg h2]
    obtain rfl := ln_of hz rfl (n := 3) rfl (by decide)
    refine ⟨fun hq h => ?_, fun hq h => ?_⟩
    · refine out_same h fun p l e R s m args below meth c D cA adK adV A ad ad0 n0 cells slots mc ms C g H locs lsA hP hD hS hv => ?_
      exact lv_if_le C.1 C.2.1 hd ht (fun _ => g H locs lsA hP hD hS hv) (fun q => absurd ((n_le hu (by omega : (-2147483648 : Int) ≤ 0 ∧ (0 : Int) < 2147483648)).mpr hq) q)
    · refine out_same h fun p l e R s m args below meth c D cA adK adV A ad ad0 n0 cells slots mc ms C g H locs lsA hP hD hS hv => ?_
      exact lv_if_le C.1 C.2.1 hd ht (fun q => absurd ((n_le hu (by omega : (-2147483648 : Int) ≤ 0 ∧ (0 : Int) < 2147483648)).mp q) hq) (fun _ => g H locs lsA hP hD hS hv)
  · cases hc
theorem o_ifnull (hd : decode (mT y).2.1 pc = .ok (raw, ln)) (hz : (isz raw == 0 || isz raw == ln) = true) (hc : chkI y raw (.ifnull b) pc = true) : (OUTP X SC y b.toNat ls st Sh M r Sh' M' → OUTP X SC y pc ls (vR none :: st) Sh M r Sh' M') ∧ (∀ q, OUTP X SC y (pc + ln) ls st Sh M r Sh' M' → OUTP X SC y pc ls (vR (some q) :: st) Sh M r Sh' M') := by
  simp only [chkI] at hc
  split at hc
  · have ht := tg_of hc
    obtain rfl := ln_of hz rfl (n := 3) rfl (by decide)
    refine ⟨fun h => ?_, fun q h => ?_⟩
    · refine out_same h fun p l e R s m args below meth c D cA adK adV A ad ad0 n0 cells slots mc ms C g H locs lsA hP hD hS hv => ?_
      exact lv_ifnullN C.1 C.2.1 hd ht (g H locs lsA hP hD hS hv)
    · refine out_same h fun p l e R s m args below meth c D cA adK adV A ad ad0 n0 cells slots mc ms C g H locs lsA hP hD hS hv => ?_
      exact lv_ifnull C.1 C.2.1 hd (g H locs lsA hP hD hS hv)
  · cases hc
theorem o_ifnonnull (hd : decode (mT y).2.1 pc = .ok (raw, ln)) (hz : (isz raw == 0 || isz raw == ln) = true) (hc : chkI y raw (.ifnonnull b) pc = true) : (OUTP X SC y (pc + ln) ls st Sh M r Sh' M' → OUTP X SC y pc ls (vR none :: st) Sh M r Sh' M') ∧ (∀ q, OUTP X SC y b.toNat ls st Sh M r Sh' M' → OUTP X SC y pc ls (vR (some q) :: st) Sh M r Sh' M') := by
  simp only [chkI] at hc
  split at hc
  · have ht := tg_of hc
    obtain rfl := ln_of hz rfl (n := 3) rfl (by decide)
    refine ⟨fun h => ?_, fun q h => ?_⟩
    · refine out_same h fun p l e R s m args below meth c D cA adK adV A ad ad0 n0 cells slots mc ms C g H locs lsA hP hD hS hv => ?_
      exact lv_ifnonnullN C.1 C.2.1 hd (g H locs lsA hP hD hS hv)
    · refine out_same h fun p l e R s m args below meth c D cA adK adV A ad ad0 n0 cells slots mc ms C g H locs lsA hP hD hS hv => ?_
      exact lv_ifnonnull C.1 C.2.1 hd ht (g H locs lsA hP hD hS hv)
  · cases hc
theorem o_tsw {d lo hi : Int} {offs : Array Int} (hu : -2147483648 ≤ u ∧ u < 2147483648) (hd : decode (mT y).2.1 pc = .ok (raw, ln)) (hc : chkI y raw (.tableswitch d lo hi offs) pc = true) (h : OUTP X SC y (tsw d lo hi offs u).toNat ls st Sh M r Sh' M') : OUTP X SC y pc ls (vI u :: st) Sh M r Sh' M' := by
  simp only [chkI] at hc
  split at hc
  · rename_i d2 lo2 hi2 offs2
    simp only [Bool.and_eq_true, decide_eq_true_eq] at hc
    obtain ⟨⟨⟨⟨⟨rfl, rfl⟩, h1, h2⟩, h3⟩, h4⟩, h5⟩ := hc
    refine out_same h fun p l e R s m args below meth c D cA adK adV A ad ad0 n0 cells slots mc ms C g H locs lsA hP hD hS hv => ?_
    have g1 := g H locs lsA hP hD hS hv
    by_cases q : u < lo2 ∨ hi2 < u
    · unfold tsw at g1
      rw [if_pos q] at g1
      exact lv_tableOut C.1 C.2.1 hd (by rw [n_of hu]; exact q) (by rw [h1, Int.toNat_of_nonneg h2]) g1
    · unfold tsw at g1
      rw [if_neg q] at g1
      have hlen : offs2.toList.length = offs.toList.length := by rw [← h3, List.length_map]
      have hix : (u - lo2).toNat < offs2.toList.length := by omega
      have e1 : offs.toList.getD (u - lo2).toNat d = (pc : Int) + offs2.toList[(u - lo2).toNat] := by
        rw [← h3, List.getD_eq_getElem?_getD, List.getElem?_map, List.getElem?_eq_getElem hix]
        rfl
      have hm : offs.toList.getD (u - lo2).toNat d ∈ offs.toList := by
        rw [List.getD_eq_getElem?_getD, List.getElem?_eq_getElem (by omega)]
        exact List.getElem_mem _
      have h6 := List.all_eq_true.mp h4 _ hm
      simp only [decide_eq_true_eq] at h6
      refine lv_tableIn (off := offs2.toList[(u - lo2).toNat]) C.1 C.2.1 hd (by rw [n_of hu]; omega) (by rw [n_of hu]; omega) (by rw [n_of hu, ← Array.getElem?_toList, List.getElem?_eq_getElem hix]) ?_ g1
      rw [← e1, Int.toNat_of_nonneg h6]
  · cases hc
theorem lsw_off {d d2 : Int} {w : Int} : ∀ {ps ps2 : List (Int × Int)}, ps2.map (fun z => (z.1, (pc : Int) + z.2)) = ps → (pc : Int) + d2 = d → lsw d ps w = (pc : Int) + Op.lookupswitch.offset ps2 d2 w
  | [], ps2, h, hd => by
    cases ps2 with
    | nil => unfold lsw Op.lookupswitch.offset; simp [hd]
    | cons q l => cases h
  | q :: l, ps2, h, hd => by
    cases ps2 with
    | nil => cases h
    | cons q2 l2 =>
      rw [List.map_cons] at h
      obtain ⟨h1, h2⟩ := List.cons.inj h
      have ih := lsw_off (w := w) h2 hd
      subst h1
      unfold lsw
      by_cases e : w = q2.1
      · rw [if_pos e]
        unfold Op.lookupswitch.offset
        simp [e]
      · rw [if_neg e, ih]
        have e2 : ¬ q2.1 = w := fun q => e q.symm
        rw [show Op.lookupswitch.offset (q2 :: l2) d2 w = (if q2.1 = w then q2.2 else Op.lookupswitch.offset l2 d2 w) from rfl, if_neg e2]
theorem lsw_nn {d w : Int} : ∀ {ps : List (Int × Int)}, 0 ≤ d → ps.all (fun z => decide (0 ≤ z.2)) = true → 0 ≤ lsw d ps w
  | [], hd, _ => hd
  | q :: l, hd, h => by
    rw [List.all_cons, Bool.and_eq_true, decide_eq_true_eq] at h
    unfold lsw
    split
    · exact h.1
    · exact lsw_nn hd h.2
theorem o_lsw {d : Int} {ps : Array (Int × Int)} (hu : -2147483648 ≤ u ∧ u < 2147483648) (hd : decode (mT y).2.1 pc = .ok (raw, ln)) (hc : chkI y raw (.lookupswitch d ps) pc = true) (h : OUTP X SC y (lsw d ps.toList u).toNat ls st Sh M r Sh' M') : OUTP X SC y pc ls (vI u :: st) Sh M r Sh' M' := by
  simp only [chkI] at hc
  split at hc
  · rename_i d2 ps2
    simp only [Bool.and_eq_true, decide_eq_true_eq] at hc
    obtain ⟨⟨⟨⟨h1, h2⟩, h3⟩, h4⟩, h5⟩ := hc
    refine out_same h fun p l e R s m args below meth c D cA adK adV A ad ad0 n0 cells slots mc ms C g H locs lsA hP hD hS hv => ?_
    have g1 := g H locs lsA hP hD hS hv
    refine lv_lookup C.1 C.2.1 hd h5 (off := Op.lookupswitch.offset ps2.toList d2 u) (by rw [n_of hu]) ?_ g1
    rw [← lsw_off h3 h1, Int.toNat_of_nonneg (lsw_nn h2 h4)]
  · cases hc
/-! ends -/
theorem out_end {st' : List PV} {v' : Option PV} (hSh : okSh Sh) (hM : okM Sh M) (hv : ∀ w, v' = some w → okV SC Sh.length w) (hW : ∀ (p : Program) (l : Launch) (e : Env) (R : Room) (s : State) (m : MethodId) (args : Array Value) (below : List Frame) (meth : Method) (c : Code) (D : va_G) (cA : Nat → ClassId) (adK adV : Nat → Nat) (A : Nat → Prop) (ad ad0 : Nat → Nat) (n0 cells slots mc ms : Nat), Cx X SC y p R s m args meth c D cA adK adV A → mc = cells → ms = slots → (∀ i, i < n0 → ad i = ad0 i) → ∀ (H : Heap) (locs : List Loc) (lsA : Array Slot), va_P D kcl (wd cA ad Sh M) H → va_D A (wd cA ad Sh M) → va_S A s.heap H locs → (∀ t : State, t.heap = H → s.WarmedH t.vm → QY n0 ad0 adK D cA A v' Sh M args s (.returned (v'.map (trv ad adK))) t) → (∀ q ∈ locs, A q.base) → W p l e R s m args below meth c H locs cells slots (MQ below (QY n0 ad0 adK D cA A v' Sh M) args s cells slots A) (F0 m pc lsA (st'.map (trv ad adK)))) : OUTP X SC y pc ls st' Sh M v' Sh M := by
  refine ⟨⟨hSh, hM, Nat.le_refl _, Nat.le_refl _, hv⟩, fun p l e R s m args below meth c D cA adK adV A ad ad0 n0 cells slots mc ms C h1 h2 h3 h4 h5 h6 => ?_⟩
  simp only [Nat.sub_self, Nat.add_zero] at h3 h4
  subst h3; subst h4
  intro H locs lsA hP hD hS hvl
  have hK := C.2.2.2.2.2.2.2.2.1
  exact hW p l e R s m args below meth c D cA adK adV A ad ad0 n0 cells slots cells slots C rfl rfl h2 H locs lsA hP hD hS (fun t ht hW => ⟨⟨ad, h2, rfl, by rw [ht]; exact hP, hK.moved hW.alike, hD⟩, hS.F ht⟩) hS.2.2
theorem o_iret {z : Int} (hzr : -2147483648 ≤ z ∧ z < 2147483648) (hSh : okSh Sh) (hM : okM Sh M) (hd : decode (mT y).2.1 pc = .ok (raw, ln)) (hz : (isz raw == 0 || isz raw == ln) = true) (hc : chkI y raw .ireturn pc = true) : OUTP X SC y pc ls [vI z] Sh M (some (vI z)) Sh M := by
  simp only [chkI, Bool.and_eq_true, decide_eq_true_eq] at hc
  obtain ⟨hrt, rfl⟩ := hc
  obtain rfl := ln_of hz rfl (n := 1) rfl (by decide)
  refine out_end hSh hM (fun w hw => by cases hw; exact hzr) fun p l e R s m args below meth c D cA adK adV A ad ad0 n0 cells slots mc ms C e1 e2 h2 H locs lsA hP hD hS hq hf => ?_
  exact W.iret C.1 C.2.1 (by rw [C.2.2.1, hrt]) hq hf hd C.2.2.2.2.2.2.1
theorem o_zret {z : Int} (hzr : 0 ≤ z ∧ z < 2) (hSh : okSh Sh) (hM : okM Sh M) (hd : decode (mT y).2.1 pc = .ok (raw, ln)) (hz : (isz raw == 0 || isz raw == ln) = true) (hc : chkI y raw .freturn pc = true) : OUTP X SC y pc ls [vI z] Sh M (some (vI z)) Sh M := by
  simp only [chkI, Bool.and_eq_true, decide_eq_true_eq] at hc
  obtain ⟨hrt, rfl⟩ := hc
  obtain rfl := ln_of hz rfl (n := 1) rfl (by decide)
  refine out_end hSh hM (fun w hw => by cases hw; show _ ∧ _; omega) fun p l e R s m args below meth c D cA adK adV A ad ad0 n0 cells slots mc ms C e1 e2 h2 H locs lsA hP hD hS hq hf => ?_
  refine W.zret (ty := .boolean) C.1 C.2.1 (by rw [C.2.2.1, hrt]) ?_ hq hf hd C.2.2.2.2.2.2.1
  rcases (by omega : z = 0 ∨ z = 1) with rfl | rfl <;> rfl
theorem o_lret {z : Int} (hzr : -9223372036854775808 ≤ z ∧ z < 9223372036854775808) (hSh : okSh Sh) (hM : okM Sh M) (hd : decode (mT y).2.1 pc = .ok (raw, ln)) (hz : (isz raw == 0 || isz raw == ln) = true) (hc : chkI y raw .lreturn pc = true) : OUTP X SC y pc ls [vL z] Sh M (some (vL z)) Sh M := by
  simp only [chkI, Bool.and_eq_true, decide_eq_true_eq] at hc
  obtain ⟨hrt, rfl⟩ := hc
  obtain rfl := ln_of hz rfl (n := 1) rfl (by decide)
  refine out_end hSh hM (fun w hw => by cases hw; exact hzr) fun p l e R s m args below meth c D cA adK adV A ad ad0 n0 cells slots mc ms C e1 e2 h2 H locs lsA hP hD hS hq hf => ?_
  exact W.lret C.1 C.2.1 (by rw [C.2.2.1, hrt]) hq hf hd C.2.2.2.2.2.2.1
theorem o_aret {q : Option Nat} (hq0 : okV SC Sh.length (vR q)) (hSh : okSh Sh) (hM : okM Sh M) (hd : decode (mT y).2.1 pc = .ok (raw, ln)) (hz : (isz raw == 0 || isz raw == ln) = true) (hc : chkI y raw .areturn pc = true) : OUTP X SC y pc ls [vR q] Sh M (some (vR q)) Sh M := by
  simp only [chkI, Bool.and_eq_true, decide_eq_true_eq] at hc
  obtain ⟨hrt, rfl⟩ := hc
  obtain rfl := ln_of hz rfl (n := 1) rfl (by decide)
  refine out_end hSh hM (fun w hw => by cases hw; exact hq0) fun p l e R s m args below meth c D cA adK adV A ad ad0 n0 cells slots mc ms C e1 e2 h2 H locs lsA hP hD hS hq hf => ?_
  split at hrt
  · rename_i nm hnm
    exact W.aret (rt := .object nm) C.1 C.2.1 (by rw [C.2.2.1]; exact hnm) (Or.inl ⟨_, rfl⟩) (by cases q with | none => exact Or.inl rfl | some a => exact Or.inr ⟨_, rfl⟩) hq hf hd C.2.2.2.2.2.2.1
  · cases hrt
theorem o_vret (hSh : okSh Sh) (hM : okM Sh M) (hd : decode (mT y).2.1 pc = .ok (raw, ln)) (hz : (isz raw == 0 || isz raw == ln) = true) (hc : chkI y raw .return_ pc = true) : OUTP X SC y pc ls [] Sh M none Sh M := by
  simp only [chkI, Bool.and_eq_true, decide_eq_true_eq] at hc
  obtain ⟨hrt, rfl⟩ := hc
  obtain rfl := ln_of hz rfl (n := 1) rfl (by decide)
  refine out_end hSh hM (fun w hw => by cases hw) fun p l e R s m args below meth c D cA adK adV A ad ad0 n0 cells slots mc ms C e1 e2 h2 H locs lsA hP hD hS hq hf => ?_
  exact W.vret C.1 C.2.1 (by rw [C.2.2.1, hrt]) hq hf hd C.2.2.2.2.2.2.1
/-! calls -/
theorem mw_in {k : Nat} (hk : k < 365) (h9 : (mwd k).1 ≠ 9) : Cond.initialized (mT k).1.cls ∈ lwG ∧ ((mwd k).1 = 1 → Cond.static (mT k).1 ∈ lwG) ∧ ((mwd k).1 = 2 → Cond.instanceMethod (mT k).1 ∈ lwG ∧ (mT k).1.name = "<init>") ∧ ((mwd k).1 = 0 → Cond.instanceMethod (mT k).1 ∈ lwG ∧ Cond.selects (mT k).1.cls (mT k).1 (mT k).1 ∈ lwG) := by
  have h := mwd_all hk
  unfold mwdf at h
  simp only [Bool.or_eq_true, beq_iff_eq, Bool.and_eq_true, decide_eq_true_eq] at h
  obtain ⟨h1, h2⟩ := h.resolve_left h9
  refine ⟨tb_in h1 rfl, fun e => ?_, fun e => ?_, fun e => ?_⟩
  · rcases h2 with h2 | h2
    · exact tb_in h2.2 rfl
    · rcases h2.2 with h3 | h3 <;> omega
  · rcases h2 with h2 | h2
    · omega
    · rcases h2.2 with h3 | h3
      · exact ⟨tb_in h2.1 rfl, h3.2⟩
      · omega
  · rcases h2 with h2 | h2
    · omega
    · rcases h2.2 with h3 | h3
      · omega
      · exact ⟨tb_in h2.1 rfl, lwG_of (List.mem_of_getElem? h3.2) rfl⟩
theorem cid_ok : (List.range 16).all (fun o => decide (cid o ≠ "java/lang/invoke/MethodHandle") && decide (cid o ≠ "java/lang/invoke/VarHandle")) = true := by decide +kernel
theorem cls_ok {k : Nat} (hk : k < 365) (h : mcl k < 16) : (mT k).1.cls ≠ "java/lang/invoke/MethodHandle" ∧ (mT k).1.cls ≠ "java/lang/invoke/VarHandle" := by
  have h1 := List.all_eq_true.mp cid_ok (mcl k) (List.mem_range.mpr h)
  simp only [Bool.and_eq_true, decide_eq_true_eq] at h1
  rw [← mcl_eq hk h]
  exact h1
theorem PRs.same {adK : Nat → Nat} {u U : State} (hv : U.vm = u.vm) (h : PRs adK u) : PRs adK U := ⟨fun i hi => (h.1 i hi).same hv, by have := h.2.1.moved (U := U) (by rw [hv]; exact Vm.Alike.refl _); exact this, by have := h.2.2.moved (U := U) (by rw [hv]; exact Vm.Alike.refl _); exact this⟩
theorem PW_blind {sz : Nat} {ad adK adV : Nat → Nat} {D : va_G} {cA : Nat → ClassId} {av : List Value} : FrameBlind (va_Pc av (PW sz ad adK adV D cA Sh M)) := PS_blind fun U g mk q => ⟨q.1, q.2.1, q.2.2.1.moved (Vm.Alike.refl U.vm), q.2.2.2.1, q.2.2.2.2.1.moved (Vm.Alike.refl U.vm), q.2.2.2.2.2.same rfl⟩
theorem rcv_0 {k : Nat} {args : List PV} {Sh : List SE} (h0 : (mwd k).1 = 0) (h : rcv k args Sh = true) : ∃ a l, args = .inr (.inr (.inl (some a))) :: l ∧ knd Sh a = mcl k := by
  unfold rcv at h
  rw [h0] at h
  match args, h with
  | .inr (.inr (.inl (some a))) :: l, h =>
    have h2 : (knd Sh a == mcl k) = true := h
    exact ⟨a, l, rfl, by simpa using h2⟩
theorem rcv_2 {k : Nat} {args : List PV} {Sh : List SE} (h0 : (mwd k).1 = 2) (h : rcv k args Sh = true) : ∃ a l, args = .inr (.inr (.inl (some a))) :: l := by
  unfold rcv at h
  rw [h0] at h
  match args, h with
  | .inr (.inr (.inl (some a))) :: l, h => exact ⟨a, l, rfl⟩
set_option maxHeartbeats 8000000 in
theorem o_call (ih : SND X n) {k cn : Nat} (hy : y < 366) (C1 : C0 X SC y) (hd : decode (mT y).2.1 pc = .ok (raw, ln)) (hz : (isz raw == 0 || isz raw == ln) = true) (hc : chkI y raw (.invokeinterface k cn) pc = true) (hch : chkL y (mT y).2.1 (pc + ln) is = true) (htg : tgo y is = true) (hl : okL SC Sh.length ls) (hst : okS SC Sh.length st) (hSh : okSh Sh) (hM : okM Sh M) (hlen : ls.length = (mT y).2.2.1)
    (hr : run X (n + 1) y (.invokeinterface k cn :: is) ls st Sh M = some (r, Sh', M')) : OUTP X SC y pc ls st Sh M r Sh' M' := by
  have hr2 : (if cn ≤ st.length ∧ (st.drop cn).length ≤ 4 ∧ (mkl (st.take cn).reverse).length ≤ (mT k).2.2.1 ∧ rcv k (st.take cn).reverse Sh = true then (match run X n k (jmp k 0) (mkls k (st.take cn).reverse) [] Sh M with | some r => run X n y is ls (r.1.toList ++ st.drop cn) r.2.1 r.2.2 | none => none) else none) = some (r, Sh', M') := hr
  split at hr2
  case isFalse => cases hr2
  rename_i hg
  obtain ⟨g1, g2, g3, g4⟩ := hg
  split at hr2
  case h_2 => cases hr2
  rename_i r1 hr1
  obtain ⟨rv, Sh1, M1⟩ := r1
  simp only at hr2
  generalize hav : (st.take cn).reverse = argv at hr1 g3 g4
  have hst2 : st = argv.reverse ++ st.drop cn := by rw [← hav, List.reverse_reverse, List.take_append_drop]
  have hln2 : argv.length = cn := by rw [← hav, List.length_reverse, List.length_take]; omega
  have hok1 : okS SC Sh.length argv := fun w hw => hst w (by rw [hst2]; exact List.mem_append_left _ (List.mem_reverse.mpr hw))
  have hok2 : okS SC Sh.length (st.drop cn) := fun w hw => hst w (List.mem_of_mem_drop hw)
  have hargs : ∀ (j : Nat) (w : PV), lgt (mkl argv) j = some w → okV False Sh.length w := fun j w hw => okL_mkl hok1 j w hw
  simp only [chkI, Bool.and_eq_true, decide_eq_true_eq] at hc
  obtain ⟨⟨hdep, hml11⟩, hc⟩ := hc
  have hkk : k < 365 ∧ (mwd k).1 ≠ 9 ∧ ln = 3 := by
    split at hc
    · simp only [Bool.and_eq_true, beq_iff_eq] at hc
      exact ⟨(mtb_in C1.1 hc.1.1.2).1, by omega, ln_of hz rfl (n := 3) rfl (by decide)⟩
    · simp only [Bool.and_eq_true, beq_iff_eq] at hc
      exact ⟨(mtb_in C1.1 hc.1.2).1, by omega, ln_of hz rfl (n := 3) rfl (by decide)⟩
    · simp only [Bool.and_eq_true, beq_iff_eq] at hc
      exact ⟨(mtb_in C1.1 hc.1.1.2).1, by omega, ln_of hz rfl (n := 3) rfl (by decide)⟩
    · cases hc
  obtain ⟨hk, hk9, rfl⟩ := hkk
  have h9 := List.all_eq_true.mp nocd k (List.mem_range.mpr (by omega))
  simp only [Bool.or_eq_true, beq_iff_eq, Bool.and_eq_true, decide_eq_true_eq] at h9
  obtain ⟨hcl, hb0⟩ := h9.resolve_left hk9
  obtain ⟨-, hchk, htgk⟩ := jmp_ok (y := k) (b := 0) (by omega) hb0
  have O1 := ih False k (jmp k 0) (mkls k argv) [] Sh M rv Sh1 M1 0 hr1 (by omega) ⟨hcl, fun h => h.elim⟩ hchk htgk (fun j w hw => hargs j w (mkls_at hw)) (fun w hw => by cases hw) hSh hM (mkls_len g3)
  obtain ⟨⟨oS1, oM1, le1, se1, ov1⟩, -⟩ := O1
  have hokr : okS SC Sh1.length (rv.toList ++ st.drop cn) := fun w hw => by
    rcases List.mem_append.mp hw with h | h
    · cases rv with
      | none => cases h
      | some z =>
        simp only [Option.toList_some, List.mem_singleton] at h
        subst h
        exact okV_F (ov1 _ rfl)
    · exact (hok2 w h).mono le1
  have O2 := ih SC y is ls (rv.toList ++ st.drop cn) Sh1 M1 r Sh' M' (pc + 3) hr2 hy C1 hch htg (hl.mono le1) hokr oS1 oM1 hlen
  obtain ⟨⟨oS2, oM2, le2, se2, ov2⟩, G2⟩ := O2
  refine ⟨⟨oS2, oM2, Nat.le_trans le1 le2, Nat.le_trans se1 se2, ov2⟩, fun p l e R s m args below meth c D cA adK adV A ad ad0 n0 cells slots mc ms C h1 h2 h3 h4 h5 h6 => ?_⟩
  intro H locs lsA hP hD hS hv
  have C' := C
  obtain ⟨hx, hb, hr0, hml, hown, hts, hlk, hin, hK, hA, hPS, hPR, hSC, hRf, hRl, hcy⟩ := C
  have hMet := met_of ih hr1 hk hk9 g3 hargs hSh hM l D cA ad adK adV H.size
  have hAA : ∀ q, va_A (wd cA ad Sh M) H.size q → A q := fun q h => by
    rcases h with ⟨j, w, h⟩ | h
    · exact hD.2 j _ h
    · exact hA q (Nat.le_trans hS.1 h)
  have hpre : ∀ U : State, U.heap = H → s.WarmedH U.vm → PW H.size ad adK adV D cA Sh M U := fun U hU hW =>
    ⟨by rw [hU], by rw [hU]; exact hP, hK.moved hW.alike, hD.weaken (fun _ _ _ _ => trivial), by rw [hU]; exact ((hPS.kept hS.2.1).moved hW.alike).narrow hAA, hPR.warm hW⟩
  have hcats := cats_le (ad := ad) (adK := adK) (st.drop cn)
  have hcs : cells + (Sh1.length - Sh.length) ≤ R.cells := by omega
  have hss : slots + (ssz Sh1 - ssz Sh) ≤ R.slots := by omega
  have hroom : (rmY k (Sh1.length - Sh.length) (ssz Sh1 - ssz Sh)).frames + 1 ≤ R.frames ∧ 8 + ((mT k).2.2.1 + 11) + (rmY k (Sh1.length - Sh.length) (ssz Sh1 - ssz Sh)).locals ≤ R.locals := by
    refine ⟨?_, ?_⟩
    · show mdep k + 1 ≤ R.frames
      omega
    · show 8 + ((mT k).2.2.1 + 11) + 30 * mdep k ≤ R.locals
      omega
  obtain ⟨wini, wst, win, wvi⟩ := mw_in hk hk9
  obtain ⟨hc1, hc2⟩ := cls_ok hk hcl
  -- behind the call
  have hbeh : ∀ (ad' : Nat → Nat) (H1 : Heap) (locs1 : List Loc), (∀ i, i < Sh.length → ad' i = ad i) → va_P D kcl (wd cA ad' Sh1 M1) H1 → va_D (va_A (wd cA ad Sh M) H.size) (wd cA ad' Sh1 M1) → va_S A s.heap H1 locs1 → W p l e R s m args below meth c H1 locs1 (cells + (Sh1.length - Sh.length)) (slots + (ssz Sh1 - ssz Sh)) (MQ below (QY n0 ad0 adK D cA A r Sh' M') args s mc ms A) (F0 m (pc + 3) lsA ((rv.map (trv ad' adK)).toList ++ (st.drop cn).map (trv ad adK))) := by
    intro ad' H1 locs1 hag hP1 hD1 hS1
    have hG := G2 p l e R s m args below meth c D cA adK adV A ad' ad0 n0 (cells + (Sh1.length - Sh.length)) (slots + (ssz Sh1 - ssz Sh)) mc ms C' (Nat.le_trans h1 le1) (fun i hi => (hag i (Nat.lt_of_lt_of_le hi h1)).trans (h2 i hi)) (by omega) (by omega) h5 h6
    have hG2 := hG H1 locs1 lsA hP1 (hD1.weaken (fun _ q _ h => hAA q.1 h)) hS1 (by rw [LV_ad hag hl]; exact hv)
    have e1 : (rv.toList ++ st.drop cn).map (trv ad' adK) = (rv.map (trv ad' adK)).toList ++ (st.drop cn).map (trv ad adK) := by
      rw [List.map_append, trv_map hag hok2]
      cases rv <;> rfl
    rw [e1] at hG2
    exact hG2
  have hstk : st.map (trv ad adK) = (argv.map (trv ad adK)).reverse ++ (st.drop cn).map (trv ad adK) := by
    rw [← List.map_reverse, ← List.map_append, ← hst2]
  split at hc
  · -- virtual
    rename_i j
    simp only [Bool.and_eq_true, beq_iff_eq, decide_eq_true_eq] at hc
    obtain ⟨⟨⟨hk0, hlk0⟩, hpar⟩, hcn⟩ := hc
    obtain ⟨-, hlink⟩ := mtb_in C1.1 hlk0
    obtain ⟨q, As, hq5, g6⟩ := rcv_0 hk0 g4
    subst hq5
    · skip
      have hcl13 : mcl k < 13 ∨ 13 ≤ mcl k := by omega
      obtain ⟨e0, s1, s2, s3, s4⟩ := knd_some g6 (by omega)
      have hk13 : e0.1 < 13 := by
        rcases (hSh q e0 s1).2.2 with z | z | z <;> omega
      have he := wd_get (cA := cA) (ad := ad) (M := M) s1
      rw [ent_obj (by omega)] at he
      have hrecv := va_recv hK hP (kcl_at hk13) he
      have hcc : cid e0.1 = (mT k).1.cls := by rw [s2]; exact mcl_eq hk hcl
      rw [show (cid e0.1, kT e0.1, cN e0.1).1 = (mT k).1.cls from hcc] at hrecv
      have hrun := va_runV (As := As.map (trv ad adK)) (b := ad q) (rest := (st.drop cn).map (trv ad adK)) (g := F0 m pc lsA (st.map (trv ad adK))) (cells := cells) (slots := slots) (H := H) (locs := locs) (p := p) (e := e) (below := below) (meth := meth) ⟨hx, hb, hml, hown, hts⟩ hMet
        (cwV (cn - 1) hts (wsV_in (C := (mT k).1.cls) hk hlink (wvi hk0).1 (wvi hk0).2 wini) rfl rfl rfl ⟨rfl, hc1, hc2, hpar⟩ hroom)
        ⟨PW_blind, hrecv, fun U hU hW => ⟨rfl, hpre U hU hW⟩⟩ rfl (by rw [List.length_map]; have : (Sum.inr (Sum.inr (Sum.inl (some q))) :: As).length = cn := hln2; simp only [List.length_cons] at this; omega) hv.1
        (by show st.map (trv ad adK) = _; rw [hstk]; simp only [List.map_cons, List.reverse_cons, List.append_assoc, List.singleton_append]; rfl) (lv_room (by omega)) hd ⟨hcs, hss⟩
      exact va_go hrun hS (fun q _ h => hAA q h) hAA hbeh
  · -- static
    rename_i j
    simp only [Bool.and_eq_true, beq_iff_eq, decide_eq_true_eq] at hc
    obtain ⟨⟨hk0, hlk0⟩, hpar⟩ := hc
    obtain ⟨-, hlink⟩ := mtb_in C1.1 hlk0
    have hrun := va_runS (As := argv.map (trv ad adK)) (rest := (st.drop cn).map (trv ad adK)) (g := F0 m pc lsA (st.map (trv ad adK))) (cells := cells) (slots := slots) (H := H) (locs := locs) (p := p) (e := e) (below := below) (meth := meth) ⟨hx, hb, hml, hown, hts⟩ hMet
      (va_cwS cn hts (wsS_in hk hlink (wst hk0) wini) rfl rfl rfl ⟨hc1, hc2, hpar⟩ hroom)
      ⟨PW_blind, fun U hU hW => ⟨rfl, hpre U hU hW⟩⟩ rfl (by rw [List.length_map]; exact hln2) hv.1 hstk (lv_room (by omega)) hd ⟨hcs, hss⟩
    exact va_go hrun hS (fun q _ h => hAA q h) hAA hbeh
  · -- a constructor
    rename_i j
    simp only [Bool.and_eq_true, beq_iff_eq, decide_eq_true_eq] at hc
    obtain ⟨⟨⟨hk0, hlk0⟩, hpar⟩, hcn⟩ := hc
    obtain ⟨-, hlink⟩ := mtb_in C1.1 hlk0
    have hrt : (mT k).2.2.2 = none := by
      have h := List.all_eq_true.mp ini_ret k (List.mem_range.mpr hk)
      simp only [Bool.or_eq_true, bne_iff_ne, ne_eq, decide_eq_true_eq] at h
      exact h.resolve_left (fun q => q hk0)
    obtain ⟨q, As, hq5⟩ := rcv_2 hk0 g4
    subst hq5
    · have hrun := va_runI (maxL := (mT k).2.2.1) (bytes := (mT k).2.1) (index := j) (n := cn - 1) (y := (mT k).1) (As := As.map (trv ad adK)) (b := ad q) (rest := (st.drop cn).map (trv ad adK)) (g := F0 m pc lsA (st.map (trv ad adK))) (cells := cells) (slots := slots) (H := H) (locs := locs) (p := p) (e := e) (below := below) (meth := meth) ⟨hx, hb, hml, hown, hts⟩ hMet
        (cwI (cn - 1) hts (gG (wsY_in hk)) (by unfold wsY mC; rw [hrt]) rfl rfl (hts _ wini) (hts _ hlink) (hts _ (win hk0).1) (win hk0).2 ⟨hc1, hc2, hpar⟩ hroom)
        ⟨PW_blind, fun U hU hW => ⟨rfl, hpre U hU hW⟩⟩ rfl (by rw [List.length_map]; have : (Sum.inr (Sum.inr (Sum.inl (some q))) :: As).length = cn := hln2; simp only [List.length_cons] at this; omega) hv.1
        (by show st.map (trv ad adK) = _; rw [hstk]; simp only [List.map_cons, List.reverse_cons, List.append_assoc, List.singleton_append]; rfl) (lv_room (by omega)) hd ⟨hcs, hss⟩
      exact va_go hrun hS (fun q _ h => hAA q h) hAA hbeh
  · cases hc
/-! all together -/
theorem run_simple {i : Instr} (hctl : isCtl i = false) : run X (n + 1) y (i :: is) ls st Sh M = (match stp X i ls st Sh M with | some q => run X n y is q.1 q.2.1 q.2.2.1 q.2.2.2 | none => none) := by
  cases i <;> first | rfl | exact Bool.noConfusion (show true = false from hctl)
theorem jsr_no {i : Instr} (hctl : isCtl i = false) : isJsr i = false ∧ isEnd i = false := by
  cases i <;> first | exact ⟨rfl, rfl⟩ | exact Bool.noConfusion (show true = false from hctl)
end CTLS
set_option maxHeartbeats 8000000 in
theorem snd_all (X : Int → Int) : ∀ n, SND X n := by
  intro n
  induction n with
  | zero => intro SC y is ls st Sh M r Sh' M' pc hr; exact absurd (show (none : Option PRES) = some _ from hr) (fun h => by cases h)
  | succ n ih =>
    intro SC y is ls st Sh M r Sh' M' pc hr hy C1 hch htg hl hst hSh hM hlen
    cases is with
    | nil => exact absurd (show (none : Option PRES) = some _ from hr) (fun h => by cases h)
    | cons i is =>
      have htl := tgo_tl htg
      have hhd := tgo_hd htg
      by_cases hctl : isCtl i = false
      · obtain ⟨hjs, hen⟩ := jsr_no hctl
        obtain ⟨raw, ln, hd, hc, hz, hre⟩ := chkL_ok hch hjs
        have hch2 := hre.resolve_left (by rw [hen]; exact fun h => by cases h)
        rw [run_simple hctl] at hr
        split at hr
        · rename_i q hs
          obtain ⟨⟨o1, o2, o3, o4, o5, o6, o7⟩, G1⟩ := snd_stp (ln := ln) C1 hd hz hl hst hSh hM hctl hc hs
          obtain ⟨⟨p1, p2, p3, p4, p5⟩, G2⟩ := ih SC y is q.1 q.2.1 q.2.2.1 q.2.2.2 r Sh' M' (pc + ln) hr hy C1 hch2 htl o1 o2 o3 o4 (o5.trans hlen)
          refine ⟨⟨p1, p2, Nat.le_trans o6 p3, Nat.le_trans o7 p4, p5⟩, fun p l e R s m args below meth c D cA adK adV A ad ad0 n0 cells slots mc ms C h1 h2 h3 h4 h5 h6 => ?_⟩
          refine G1 p l e R s m args below meth c D cA adK adV A _ ad cells slots C (by omega) (by omega) fun ad' hag => ?_
          exact G2 p l e R s m args below meth c D cA adK adV A ad' ad0 n0 _ _ mc ms C (Nat.le_trans h1 o6) (fun i hi => (hag i (Nat.lt_of_lt_of_le hi h1)).trans (h2 i hi)) (by omega) (by omega) h5 h6
        · cases hr
      · have jmpO : ∀ (b : Int) (st' : List PV), b ∈ tgs i → okS SC Sh.length st' → run X n y (jmp y b) ls st' Sh M = some (r, Sh', M') → OUTP X SC y b.toNat ls st' Sh M r Sh' M' := fun b st' hb hs hr2 => by
          obtain ⟨-, q2, q3⟩ := jmp_ok hy (hhd b hb)
          exact ih SC y (jmp y b) ls st' Sh M r Sh' M' b.toNat hr2 hy C1 q2 q3 hl hs hSh hM hlen
        cases i
        case jsr b =>
          have hch2 : decide ((pc : Int) = b) = true := hch
          simp only [decide_eq_true_eq] at hch2
          have h := jmpO b st List.mem_cons_self hst hr
          rw [← hch2] at h
          exact h
        case goto b =>
          obtain ⟨raw, ln, hd, hc, hz, -⟩ := chkL_ok hch rfl
          exact o_goto hd hz hc (jmpO b st List.mem_cons_self hst hr)
        case if_icmp cm b =>
          obtain ⟨raw, ln, hd, hc, hz, hre⟩ := chkL_ok hch rfl
          have hch2 := hre.resolve_left (fun h => by cases h)
          rcases st with _ | ⟨v, st⟩
          · exact absurd (show (none : Option PRES) = some _ from hr) (fun h => by cases h)
          rcases st with _ | ⟨u, st⟩
          · rcases v with v | v | v | v <;> exact absurd (show (none : Option PRES) = some _ from hr) (fun h => by cases h)
          rcases v with v | v | v | v
          case inr.inl => exact absurd (show (none : Option PRES) = some _ from hr) (fun h => by cases h)
          case inr.inr.inl => exact absurd (show (none : Option PRES) = some _ from hr) (fun h => by cases h)
          case inr.inr.inr => exact absurd (show (none : Option PRES) = some _ from hr) (fun h => by cases h)
          rcases u with u | u | u | u
          case inr.inl => exact absurd (show (none : Option PRES) = some _ from hr) (fun h => by cases h)
          case inr.inr.inl => exact absurd (show (none : Option PRES) = some _ from hr) (fun h => by cases h)
          case inr.inr.inr => exact absurd (show (none : Option PRES) = some _ from hr) (fun h => by cases h)
          have hr2 : (if cmpI cm u v = true then run X n y (jmp y b) ls st Sh M else run X n y is ls st Sh M) = some (r, Sh', M') := hr
          have goF : run X n y is ls st Sh M = some (r, Sh', M') → OUTP X SC y (pc + ln) ls st Sh M r Sh' M' := fun h => ih SC y is ls st Sh M r Sh' M' (pc + ln) h hy C1 hch2 htl hl hst.tl.tl hSh hM hlen
          cases cm
          case eq =>
            by_cases hq : u = v
            · rw [if_pos (by simpa [cmpI] using hq)] at hr2
              exact (o_icmp_eq hst.tl.hd hst.hd hd hz hc).1 hq (jmpO b st List.mem_cons_self hst.tl.tl hr2)
            · rw [if_neg (by simpa [cmpI] using hq)] at hr2
              exact (o_icmp_eq hst.tl.hd hst.hd hd hz hc).2 hq (goF hr2)
          case ne =>
            by_cases hq : u ≠ v
            · rw [if_pos (by simpa [cmpI] using hq)] at hr2
              exact (o_icmp_ne hst.tl.hd hst.hd hd hz hc).1 hq (jmpO b st List.mem_cons_self hst.tl.tl hr2)
            · rw [if_neg (by simpa [cmpI] using hq)] at hr2
              exact (o_icmp_ne hst.tl.hd hst.hd hd hz hc).2 hq (goF hr2)
          case lt =>
            by_cases hq : u < v
            · rw [if_pos (by simpa [cmpI] using hq)] at hr2
              exact (o_icmp_lt hst.tl.hd hst.hd hd hz hc).1 hq (jmpO b st List.mem_cons_self hst.tl.tl hr2)
            · rw [if_neg (by simpa [cmpI] using hq)] at hr2
              exact (o_icmp_lt hst.tl.hd hst.hd hd hz hc).2 hq (goF hr2)
          case ge =>
            by_cases hq : v ≤ u
            · rw [if_pos (by simpa [cmpI] using hq)] at hr2
              exact (o_icmp_ge hst.tl.hd hst.hd hd hz hc).1 hq (jmpO b st List.mem_cons_self hst.tl.tl hr2)
            · rw [if_neg (by simpa [cmpI] using hq)] at hr2
              exact (o_icmp_ge hst.tl.hd hst.hd hd hz hc).2 hq (goF hr2)
          case gt =>
            by_cases hq : v < u
            · rw [if_pos (by simpa [cmpI] using hq)] at hr2
              exact (o_icmp_gt hst.tl.hd hst.hd hd hz hc).1 hq (jmpO b st List.mem_cons_self hst.tl.tl hr2)
            · rw [if_neg (by simpa [cmpI] using hq)] at hr2
              exact (o_icmp_gt hst.tl.hd hst.hd hd hz hc).2 hq (goF hr2)
          case le =>
            by_cases hq : u ≤ v
            · rw [if_pos (by simpa [cmpI] using hq)] at hr2
              exact (o_icmp_le hst.tl.hd hst.hd hd hz hc).1 hq (jmpO b st List.mem_cons_self hst.tl.tl hr2)
            · rw [if_neg (by simpa [cmpI] using hq)] at hr2
              exact (o_icmp_le hst.tl.hd hst.hd hd hz hc).2 hq (goF hr2)
        case ifCond cm b =>
          obtain ⟨raw, ln, hd, hc, hz, hre⟩ := chkL_ok hch rfl
          have hch2 := hre.resolve_left (fun h => by cases h)
          rcases st with _ | ⟨u, st⟩
          · exact absurd (show (none : Option PRES) = some _ from hr) (fun h => by cases h)
          rcases u with u | u | u | u
          case inr.inl => exact absurd (show (none : Option PRES) = some _ from hr) (fun h => by cases h)
          case inr.inr.inl => exact absurd (show (none : Option PRES) = some _ from hr) (fun h => by cases h)
          case inr.inr.inr => exact absurd (show (none : Option PRES) = some _ from hr) (fun h => by cases h)
          have hr2 : (if cmpI cm u 0 = true then run X n y (jmp y b) ls st Sh M else run X n y is ls st Sh M) = some (r, Sh', M') := hr
          have goF : run X n y is ls st Sh M = some (r, Sh', M') → OUTP X SC y (pc + ln) ls st Sh M r Sh' M' := fun h => ih SC y is ls st Sh M r Sh' M' (pc + ln) h hy C1 hch2 htl hl hst.tl hSh hM hlen
          cases cm
          case eq =>
            by_cases hq : u = 0
            · rw [if_pos (by simpa [cmpI] using hq)] at hr2
              exact (o_if_eq hst.hd hd hz hc).1 hq (jmpO b st List.mem_cons_self hst.tl hr2)
            · rw [if_neg (by simpa [cmpI] using hq)] at hr2
              exact (o_if_eq hst.hd hd hz hc).2 hq (goF hr2)
          case ne =>
            by_cases hq : u ≠ 0
            · rw [if_pos (by simpa [cmpI] using hq)] at hr2
              exact (o_if_ne hst.hd hd hz hc).1 hq (jmpO b st List.mem_cons_self hst.tl hr2)
            · rw [if_neg (by simpa [cmpI] using hq)] at hr2
              exact (o_if_ne hst.hd hd hz hc).2 hq (goF hr2)
          case lt =>
            by_cases hq : u < 0
            · rw [if_pos (by simpa [cmpI] using hq)] at hr2
              exact (o_if_lt hst.hd hd hz hc).1 hq (jmpO b st List.mem_cons_self hst.tl hr2)
            · rw [if_neg (by simpa [cmpI] using hq)] at hr2
              exact (o_if_lt hst.hd hd hz hc).2 hq (goF hr2)
          case ge =>
            by_cases hq : 0 ≤ u
            · rw [if_pos (by simpa [cmpI] using hq)] at hr2
              exact (o_if_ge hst.hd hd hz hc).1 hq (jmpO b st List.mem_cons_self hst.tl hr2)
            · rw [if_neg (by simpa [cmpI] using hq)] at hr2
              exact (o_if_ge hst.hd hd hz hc).2 hq (goF hr2)
          case gt =>
            by_cases hq : 0 < u
            · rw [if_pos (by simpa [cmpI] using hq)] at hr2
              exact (o_if_gt hst.hd hd hz hc).1 hq (jmpO b st List.mem_cons_self hst.tl hr2)
            · rw [if_neg (by simpa [cmpI] using hq)] at hr2
              exact (o_if_gt hst.hd hd hz hc).2 hq (goF hr2)
          case le =>
            by_cases hq : u ≤ 0
            · rw [if_pos (by simpa [cmpI] using hq)] at hr2
              exact (o_if_le hst.hd hd hz hc).1 hq (jmpO b st List.mem_cons_self hst.tl hr2)
            · rw [if_neg (by simpa [cmpI] using hq)] at hr2
              exact (o_if_le hst.hd hd hz hc).2 hq (goF hr2)
        case ifnull b =>
          obtain ⟨raw, ln, hd, hc, hz, hre⟩ := chkL_ok hch rfl
          have hch2 := hre.resolve_left (fun h => by cases h)
          rcases st with _ | ⟨u, st⟩
          · exact absurd (show (none : Option PRES) = some _ from hr) (fun h => by cases h)
          rcases u with u | u | u | u
          case inl => exact absurd (show (none : Option PRES) = some _ from hr) (fun h => by cases h)
          case inr.inl => exact absurd (show (none : Option PRES) = some _ from hr) (fun h => by cases h)
          case inr.inr.inr => exact absurd (show (none : Option PRES) = some _ from hr) (fun h => by cases h)
          cases u with
          | none => exact (o_ifnull hd hz hc).1 (jmpO b st List.mem_cons_self hst.tl hr)
          | some q => exact (o_ifnull hd hz hc).2 q (ih SC y is ls st Sh M r Sh' M' (pc + ln) hr hy C1 hch2 htl hl hst.tl hSh hM hlen)
        case ifnonnull b =>
          obtain ⟨raw, ln, hd, hc, hz, hre⟩ := chkL_ok hch rfl
          have hch2 := hre.resolve_left (fun h => by cases h)
          rcases st with _ | ⟨u, st⟩
          · exact absurd (show (none : Option PRES) = some _ from hr) (fun h => by cases h)
          rcases u with u | u | u | u
          case inl => exact absurd (show (none : Option PRES) = some _ from hr) (fun h => by cases h)
          case inr.inl => exact absurd (show (none : Option PRES) = some _ from hr) (fun h => by cases h)
          case inr.inr.inr => exact absurd (show (none : Option PRES) = some _ from hr) (fun h => by cases h)
          cases u with
          | none => exact (o_ifnonnull hd hz hc).1 (ih SC y is ls st Sh M r Sh' M' (pc + ln) hr hy C1 hch2 htl hl hst.tl hSh hM hlen)
          | some q => exact (o_ifnonnull hd hz hc).2 q (jmpO b st List.mem_cons_self hst.tl hr)
        case tableswitch d lo hi offs =>
          obtain ⟨raw, ln, hd, hc, hz, hre⟩ := chkL_ok hch rfl
          rcases st with _ | ⟨u, st⟩
          · exact absurd (show (none : Option PRES) = some _ from hr) (fun h => by cases h)
          rcases u with u | u | u | u
          case inr.inl => exact absurd (show (none : Option PRES) = some _ from hr) (fun h => by cases h)
          case inr.inr.inl => exact absurd (show (none : Option PRES) = some _ from hr) (fun h => by cases h)
          case inr.inr.inr => exact absurd (show (none : Option PRES) = some _ from hr) (fun h => by cases h)
          refine o_tsw hst.hd hd hc (jmpO _ st ?_ hst.tl hr)
          show tsw d lo hi offs u ∈ d :: offs.toList
          unfold tsw
          split
          · exact List.mem_cons_self
          · rw [List.getD_eq_getElem?_getD]
            cases hq : offs.toList[(u - lo).toNat]? with
            | none => exact List.mem_cons_self
            | some z => exact List.mem_cons_of_mem _ (List.mem_of_getElem? hq)
        case lookupswitch d ps =>
          obtain ⟨raw, ln, hd, hc, hz, hre⟩ := chkL_ok hch rfl
          rcases st with _ | ⟨u, st⟩
          · exact absurd (show (none : Option PRES) = some _ from hr) (fun h => by cases h)
          rcases u with u | u | u | u
          case inr.inl => exact absurd (show (none : Option PRES) = some _ from hr) (fun h => by cases h)
          case inr.inr.inl => exact absurd (show (none : Option PRES) = some _ from hr) (fun h => by cases h)
          case inr.inr.inr => exact absurd (show (none : Option PRES) = some _ from hr) (fun h => by cases h)
          refine o_lsw hst.hd hd hc (jmpO _ st ?_ hst.tl hr)
          show lsw d ps.toList u ∈ d :: ps.toList.map (fun q => q.2)
          have key : ∀ l : List (Int × Int), lsw d l u ∈ d :: l.map (fun q => q.2) := by
            intro l
            induction l with
            | nil => exact List.mem_cons_self
            | cons q l ihl =>
              unfold lsw
              split
              · exact List.mem_cons_of_mem _ List.mem_cons_self
              · rcases List.mem_cons.mp ihl with h | h
                · rw [h]; exact List.mem_cons_self
                · exact List.mem_cons_of_mem _ (List.mem_cons_of_mem _ h)
          exact key _
        case ireturn =>
          obtain ⟨raw, ln, hd, hc, hz, hre⟩ := chkL_ok hch rfl
          rcases st with _ | ⟨u, st⟩
          · exact absurd (show (none : Option PRES) = some _ from hr) (fun h => by cases h)
          rcases u with u | u | u | u
          case inr.inl => exact absurd (show (none : Option PRES) = some _ from hr) (fun h => by cases h)
          case inr.inr.inl => exact absurd (show (none : Option PRES) = some _ from hr) (fun h => by cases h)
          case inr.inr.inr => exact absurd (show (none : Option PRES) = some _ from hr) (fun h => by cases h)
          rcases st with _ | ⟨w, st⟩
          · cases (show some (some (vI u), Sh, M) = some (r, Sh', M') from hr)
            exact o_iret hst.hd hSh hM hd hz hc
          · exact absurd (show (none : Option PRES) = some _ from hr) (fun h => by cases h)
        case freturn =>
          obtain ⟨raw, ln, hd, hc, hz, hre⟩ := chkL_ok hch rfl
          rcases st with _ | ⟨u, st⟩
          · exact absurd (show (none : Option PRES) = some _ from hr) (fun h => by cases h)
          rcases u with u | u | u | u
          case inr.inl => exact absurd (show (none : Option PRES) = some _ from hr) (fun h => by cases h)
          case inr.inr.inl => exact absurd (show (none : Option PRES) = some _ from hr) (fun h => by cases h)
          case inr.inr.inr => exact absurd (show (none : Option PRES) = some _ from hr) (fun h => by cases h)
          rcases st with _ | ⟨w, st⟩
          · have hr2 : (if 0 ≤ u ∧ u < 2 then some (some (vI u), Sh, M) else none) = some (r, Sh', M') := hr
            split at hr2
            · rename_i hq
              cases hr2
              exact o_zret hq hSh hM hd hz hc
            · cases hr2
          · exact absurd (show (none : Option PRES) = some _ from hr) (fun h => by cases h)
        case lreturn =>
          obtain ⟨raw, ln, hd, hc, hz, hre⟩ := chkL_ok hch rfl
          rcases st with _ | ⟨u, st⟩
          · exact absurd (show (none : Option PRES) = some _ from hr) (fun h => by cases h)
          rcases u with u | u | u | u
          case inl => exact absurd (show (none : Option PRES) = some _ from hr) (fun h => by cases h)
          case inr.inr.inl => exact absurd (show (none : Option PRES) = some _ from hr) (fun h => by cases h)
          case inr.inr.inr => exact absurd (show (none : Option PRES) = some _ from hr) (fun h => by cases h)
          rcases st with _ | ⟨w, st⟩
          · cases (show some (some (vL u), Sh, M) = some (r, Sh', M') from hr)
            exact o_lret hst.hd hSh hM hd hz hc
          · exact absurd (show (none : Option PRES) = some _ from hr) (fun h => by cases h)
        case areturn =>
          obtain ⟨raw, ln, hd, hc, hz, hre⟩ := chkL_ok hch rfl
          rcases st with _ | ⟨u, st⟩
          · exact absurd (show (none : Option PRES) = some _ from hr) (fun h => by cases h)
          rcases u with u | u | u | u
          case inl => exact absurd (show (none : Option PRES) = some _ from hr) (fun h => by cases h)
          case inr.inl => exact absurd (show (none : Option PRES) = some _ from hr) (fun h => by cases h)
          case inr.inr.inr => exact absurd (show (none : Option PRES) = some _ from hr) (fun h => by cases h)
          rcases st with _ | ⟨w, st⟩
          · cases (show some (some (vR u), Sh, M) = some (r, Sh', M') from hr)
            exact o_aret hst.hd hSh hM hd hz hc
          · exact absurd (show (none : Option PRES) = some _ from hr) (fun h => by cases h)
        case return_ =>
          obtain ⟨raw, ln, hd, hc, hz, hre⟩ := chkL_ok hch rfl
          rcases st with _ | ⟨u, st⟩
          · cases (show some (none, Sh, M) = some (r, Sh', M') from hr)
            exact o_vret hSh hM hd hz hc
          · exact absurd (show (none : Option PRES) = some _ from hr) (fun h => by cases h)
        case invokeinterface k cn =>
          obtain ⟨raw, ln, hd, hc, hz, hre⟩ := chkL_ok hch rfl
          exact o_call ih hy C1 hd hz hc (hre.resolve_left (fun h => by cases h)) htl hl hst hSh hM hlen hr
        all_goals exact absurd rfl hctl
