/-! THE LIMIT of the interpreter: 'ev', and its equations. -/
abbrev NX : Type := PRES ⊕ (List Instr × PLS × List PV × List SE × Mem) ⊕ (Nat × List PV × List PV)
/-- what an instruction asks for: an end, the next instructions, a call -/
def nxt (X : Int → Int) (y : Nat) (i : Instr) (is : List Instr) (ls : PLS) (st : List PV) (Sh : List SE) (M : Mem) : Option NX := match i with
  | .goto b => some (.inr (.inl (jmp y b, ls, st, Sh, M)))
  | .jsr b => some (.inr (.inl (jmp y b, ls, st, Sh, M)))
  | .if_icmp c b => (match st with | .inl v :: .inl u :: st => some (.inr (.inl (if cmpI c u v = true then jmp y b else is, ls, st, Sh, M))) | _ => none)
  | .ifCond c b => (match st with | .inl u :: st => some (.inr (.inl (if cmpI c u 0 = true then jmp y b else is, ls, st, Sh, M))) | _ => none)
  | .ifnull b => (match st with | .inr (.inr (.inl none)) :: st => some (.inr (.inl (jmp y b, ls, st, Sh, M))) | .inr (.inr (.inl (some _))) :: st => some (.inr (.inl (is, ls, st, Sh, M))) | _ => none)
  | .ifnonnull b => (match st with | .inr (.inr (.inl (some _))) :: st => some (.inr (.inl (jmp y b, ls, st, Sh, M))) | .inr (.inr (.inl none)) :: st => some (.inr (.inl (is, ls, st, Sh, M))) | _ => none)
  | .tableswitch d lo hi offs => (match st with | .inl u :: st => some (.inr (.inl (jmp y (tsw d lo hi offs u), ls, st, Sh, M))) | _ => none)
  | .lookupswitch d ps => (match st with | .inl u :: st => some (.inr (.inl (jmp y (lsw d ps.toList u), ls, st, Sh, M))) | _ => none)
  | .ireturn => (match st with | [.inl z] => some (.inl (some (vI z), Sh, M)) | _ => none)
  | .freturn => (match st with | [.inl z] => if 0 ≤ z ∧ z < 2 then some (.inl (some (vI z), Sh, M)) else none | _ => none)
  | .lreturn => (match st with | [.inr (.inl z)] => some (.inl (some (vL z), Sh, M)) | _ => none)
  | .areturn => (match st with | [.inr (.inr (.inl q))] => some (.inl (some (vR q), Sh, M)) | _ => none)
  | .return_ => (match st with | [] => some (.inl (none, Sh, M)) | _ => none)
  | .invokeinterface k c =>
    if c ≤ st.length ∧ (st.drop c).length ≤ 4 ∧ (mkl (st.take c).reverse).length ≤ (mT k).2.2.1 ∧ rcv k (st.take c).reverse Sh = true then some (.inr (.inr (k, (st.take c).reverse, st.drop c))) else none
  | i => (match stp X i ls st Sh M with | some q => some (.inr (.inl (is, q.1, q.2.1, q.2.2.1, q.2.2.2))) | none => none)
/-- one more step by K -/
def bod (K : Nat → List Instr → PLS → List PV → List SE → Mem → Option PRES) (y : Nat) (is : List Instr) (ls : PLS) (Sh : List SE) (M : Mem) : Option NX → Option PRES
  | none => none
  | some (.inl r) => some r
  | some (.inr (.inl q)) => K y q.1 q.2.1 q.2.2.1 q.2.2.2.1 q.2.2.2.2
  | some (.inr (.inr q)) => (match K q.1 (jmp q.1 0) (mkls q.1 q.2.1) [] Sh M with
    | some r => K y is ls (r.1.toList ++ q.2.2) r.2.1 r.2.2
    | none => none)
theorem nxt_simple {X : Int → Int} {y : Nat} {i : Instr} {is : List Instr} {ls : PLS} {st : List PV} {Sh : List SE} {M : Mem} (hctl : isCtl i = false) : nxt X y i is ls st Sh M = (match stp X i ls st Sh M with | some q => some (.inr (.inl (is, q.1, q.2.1, q.2.2.1, q.2.2.2))) | none => none) := by
  cases i <;> first | rfl | exact Bool.noConfusion (show true = false from hctl)
theorem run_bod {X : Int → Int} {n y : Nat} {i : Instr} {is : List Instr} {ls : PLS} {st : List PV} {Sh : List SE} {M : Mem} : run X (n + 1) y (i :: is) ls st Sh M = bod (run X n) y is ls Sh M (nxt X y i is ls st Sh M) := by
  by_cases hctl : isCtl i = false
  · rw [run_simple hctl, nxt_simple hctl]
    cases stp X i ls st Sh M <;> rfl
  · cases i
    case goto b => rfl
    case jsr b => rfl
    case if_icmp c b =>
      simp only [run, nxt]
      split
      · simp only [bod]
        split <;> rfl
      · rename_i h
        split
        · exact (h _ _ _ rfl).elim
        · rfl
    case ifCond c b =>
      simp only [run, nxt]
      split
      · simp only [bod]
        split <;> rfl
      · rename_i h
        split
        · exact (h _ _ rfl).elim
        · rfl
    case ifnull b =>
      simp only [run, nxt]
      split
      · rfl
      · rfl
      · rename_i h1 h2
        split
        · exact (h1 _ rfl).elim
        · exact (h2 _ _ rfl).elim
        · rfl
    case ifnonnull b =>
      simp only [run, nxt]
      split
      · rfl
      · rfl
      · rename_i h1 h2
        split
        · exact (h1 _ _ rfl).elim
        · exact (h2 _ rfl).elim
        · rfl
    case tableswitch d lo hi offs =>
      simp only [run, nxt]
      split
      · rfl
      · rename_i h
        split
        · exact (h _ _ rfl).elim
        · rfl
    case lookupswitch d ps =>
      simp only [run, nxt]
      split
      · rfl
      · rename_i h
        split
        · exact (h _ _ rfl).elim
        · rfl
    case ireturn =>
      simp only [run, nxt]
      split
      · rfl
      · rename_i h
        split
        · exact (h _ rfl).elim
        · rfl
    case freturn =>
      simp only [run, nxt]
      split
      · rename_i z
        show (if 0 ≤ z ∧ z < 2 then some (some (vI z), Sh, M) else none) = bod (run X n) y is ls Sh M (if 0 ≤ z ∧ z < 2 then some (.inl (some (vI z), Sh, M)) else none)
        split <;> rfl
      · rename_i h
        split
        · exact (h _ rfl).elim
        · rfl
    case lreturn =>
      simp only [run, nxt]
      split
      · rfl
      · rename_i h
        split
        · exact (h _ rfl).elim
        · rfl
    case areturn =>
      simp only [run, nxt]
      split
      · rfl
      · rename_i h
        split
        · exact (h _ rfl).elim
        · rfl
    case return_ =>
      simp only [run, nxt]
      split
      · rfl
      · rename_i h
        split
        · exact (h rfl).elim
        · rfl
    case invokeinterface k c =>
      simp only [run, nxt]
      split
      · rfl
      · rfl
    all_goals exact absurd rfl hctl
theorem bod_mono {K K' : Nat → List Instr → PLS → List PV → List SE → Mem → Option PRES} (hK : ∀ y is ls st Sh M r, K y is ls st Sh M = some r → K' y is ls st Sh M = some r) {y : Nat} {is : List Instr} {ls : PLS} {Sh : List SE} {M : Mem} {o : Option NX} {r : PRES} (h : bod K y is ls Sh M o = some r) : bod K' y is ls Sh M o = some r := by
  match o, h with
  | some (.inl r2), h => exact h
  | some (.inr (.inl q)), h => exact hK _ _ _ _ _ _ _ h
  | some (.inr (.inr q)), h =>
    unfold bod at h ⊢
    dsimp only at h ⊢
    cases h1 : K q.1 (jmp q.1 0) (mkls q.1 q.2.1) [] Sh M with
    | none => rw [h1] at h; cases h
    | some r1 =>
      rw [h1] at h
      rw [hK _ _ _ _ _ _ _ h1]
      exact hK _ _ _ _ _ _ _ h
theorem run_mono1 {X : Int → Int} : ∀ (n y : Nat) (is : List Instr) (ls : PLS) (st : List PV) (Sh : List SE) (M : Mem) (r : PRES), run X n y is ls st Sh M = some r → run X (n + 1) y is ls st Sh M = some r
  | 0, _, _, _, _, _, _, _, h => absurd (show (none : Option PRES) = some _ from h) (fun h => by cases h)
  | n + 1, y, [], ls, st, Sh, M, r, h => absurd (show (none : Option PRES) = some _ from h) (fun h => by cases h)
  | n + 1, y, i :: is, ls, st, Sh, M, r, h => by
    rw [run_bod] at h ⊢
    exact bod_mono (fun y is ls st Sh M r h => run_mono1 n y is ls st Sh M r h) h
theorem run_mono {X : Int → Int} {n k y : Nat} {is : List Instr} {ls : PLS} {st : List PV} {Sh : List SE} {M : Mem} {r : PRES} (hk : n ≤ k) (h : run X n y is ls st Sh M = some r) : run X k y is ls st Sh M = some r := by
  induction hk with
  | refl => exact h
  | step _ ih => exact run_mono1 _ _ _ _ _ _ _ _ ih
noncomputable def ev (X : Int → Int) (y : Nat) (is : List Instr) (ls : PLS) (st : List PV) (Sh : List SE) (M : Mem) : Option PRES :=
  @dite (Option PRES) (∃ n r, run X n y is ls st Sh M = some r) (Classical.propDecidable _) (fun h => some (Classical.choose (Classical.choose_spec h))) (fun _ => none)
theorem ev_iff {X : Int → Int} {y : Nat} {is : List Instr} {ls : PLS} {st : List PV} {Sh : List SE} {M : Mem} {r : PRES} : ev X y is ls st Sh M = some r ↔ ∃ n, run X n y is ls st Sh M = some r := by
  constructor
  · intro h
    unfold ev at h
    split at h
    · rename_i hx
      have h2 := Classical.choose_spec (Classical.choose_spec hx)
      exact ⟨_, by rw [h2]; exact h⟩
    · cases h
  · rintro ⟨n, h⟩
    have hx : ∃ n r, run X n y is ls st Sh M = some r := ⟨n, r, h⟩
    unfold ev
    rw [dif_pos hx]
    have h2 := Classical.choose_spec (Classical.choose_spec hx)
    rw [← h2]
    rw [← run_mono (Nat.le_max_left n (Classical.choose hx)) h]
    exact (run_mono (Nat.le_max_right n (Classical.choose hx)) h2).symm ▸ h2
theorem opt_ext {α : Type} {a b : Option α} (h : ∀ r, a = some r ↔ b = some r) : a = b := by
  cases a with
  | none => cases b with
    | none => rfl
    | some z => exact ((h z).mpr rfl)
  | some z => exact ((h z).mp rfl).symm
theorem ev_bod {X : Int → Int} {y : Nat} {i : Instr} {is : List Instr} {ls : PLS} {st : List PV} {Sh : List SE} {M : Mem} : ev X y (i :: is) ls st Sh M = bod (ev X) y is ls Sh M (nxt X y i is ls st Sh M) := by
  refine opt_ext fun r => ?_
  rw [ev_iff]
  constructor
  · rintro ⟨n, h⟩
    cases n with
    | zero => exact absurd (show (none : Option PRES) = some _ from h) (fun h => by cases h)
    | succ n =>
      rw [run_bod] at h
      exact bod_mono (fun y is ls st Sh M r h => ev_iff.mpr ⟨n, h⟩) h
  · intro h
    have key : ∃ n, bod (run X n) y is ls Sh M (nxt X y i is ls st Sh M) = some r := by
      generalize nxt X y i is ls st Sh M = o at h ⊢
      match o, h with
      | some (.inl r2), h => exact ⟨0, h⟩
      | some (.inr (.inl q)), h =>
        obtain ⟨n, hn⟩ := ev_iff.mp (show ev X y q.1 q.2.1 q.2.2.1 q.2.2.2.1 q.2.2.2.2 = some r from h)
        exact ⟨n, hn⟩
      | some (.inr (.inr q)), h =>
        unfold bod at h
        dsimp only at h
        cases h1 : ev X q.1 (jmp q.1 0) (mkls q.1 q.2.1) [] Sh M with
        | none => rw [h1] at h; cases h
        | some r1 =>
          rw [h1] at h
          obtain ⟨n1, g1⟩ := ev_iff.mp h1
          obtain ⟨n2, g2⟩ := ev_iff.mp h
          refine ⟨max n1 n2, ?_⟩
          unfold bod
          dsimp only
          rw [run_mono (Nat.le_max_left n1 n2) g1]
          exact run_mono (Nat.le_max_right n1 n2) g2
    obtain ⟨n, hn⟩ := key
    exact ⟨n + 1, by rw [run_bod]; exact hn⟩
