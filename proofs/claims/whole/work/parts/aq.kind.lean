/-! The KIND of an answer: a method without lreturn, areturn, return answers with an int, one with lreturn alone with a long. -/
def noL (i : Instr) : Bool := match i with
  | .lreturn | .areturn | .return_ => false
  | _ => true
def noI (i : Instr) : Bool := match i with
  | .ireturn | .freturn | .areturn | .return_ => false
  | _ => true
def isKd (w : Bool) (r : PRES) : Prop := if w = true then ∃ z, r.1 = some (vI z) else ∃ z, r.1 = some (vL z)
def okK (w : Bool) (i : Instr) : Bool := if w = true then noL i else noI i
section KND
variable {X : Int → Int} {y : Nat} {is : List Instr} {ls : PLS} {st : List PV} {Sh : List SE} {M : Mem}
theorem nxt_go {i : Instr} {q : List Instr × PLS × List PV × List SE × Mem} (h : nxt X y i is ls st Sh M = some (.inr (.inl q))) : q.1 = is ∨ ∃ b, q.1 = jmp y b := by
  by_cases hctl : isCtl i = false
  · rw [nxt_simple hctl] at h
    split at h
    · injection h with h; injection h with h; injection h with h
      rw [← h]; exact Or.inl rfl
    · injection h
  · cases i
    all_goals first
      | exact absurd rfl hctl
      | (simp only [nxt] at h
         repeat' split at h
         all_goals first
           | (injection h with h; injection h with h; injection h with h; rw [← h]; first | exact Or.inl rfl | exact Or.inr ⟨_, rfl⟩ | (show (if _ then _ else _) = is ∨ _; split <;> first | exact Or.inl rfl | exact Or.inr ⟨_, rfl⟩))
           | (injection h with h; injection h with h; injection h; done)
           | (injection h with h; injection h; done)
           | (injection h; done))
theorem nxt_end {i : Instr} {w : Bool} {r : PRES} (hi : okK w i = true) (h : nxt X y i is ls st Sh M = some (.inl r)) : isKd w r := by
  by_cases hctl : isCtl i = false
  · rw [nxt_simple hctl] at h
    split at h
    · injection h with h; injection h
    · injection h
  · cases w
    · show ∃ z, r.1 = some (vL z)
      cases i
      all_goals first
        | exact absurd rfl hctl
        | exact Bool.noConfusion (show false = true from hi)
        | (simp only [nxt] at h
           repeat' split at h
           all_goals first
             | (injection h with h; injection h with h; rw [← h]; exact ⟨_, rfl⟩)
             | (injection h with h; injection h; done)
             | (injection h; done))
    · show ∃ z, r.1 = some (vI z)
      cases i
      all_goals first
        | exact absurd rfl hctl
        | exact Bool.noConfusion (show false = true from hi)
        | (simp only [nxt] at h
           repeat' split at h
           all_goals first
             | (injection h with h; injection h with h; rw [← h]; exact ⟨_, rfl⟩)
             | (injection h with h; injection h; done)
             | (injection h; done))
theorem run_kind {w : Bool} (hy : ∀ b, (jmp y b).all (okK w) = true) : ∀ (n : Nat) (is : List Instr) (ls : PLS) (st : List PV) (Sh : List SE) (M : Mem) (r : PRES), is.all (okK w) = true → run X n y is ls st Sh M = some r → isKd w r
  | 0, _, _, _, _, _, _, _, h => by injection h
  | _ + 1, [], _, _, _, _, _, _, h => by injection h
  | n + 1, i :: is, ls, st, Sh, M, r, hi, h => by
    rw [List.all_cons, Bool.and_eq_true] at hi
    rw [run_bod] at h
    cases hn : nxt X y i is ls st Sh M with
    | none => rw [hn] at h; injection h
    | some q =>
      rw [hn] at h
      rcases q with r' | q | q
      · have h' : some r' = some r := h
        injection h' with h'
        rw [← h']
        exact nxt_end hi.1 hn
      · have h' : run X n y q.1 q.2.1 q.2.2.1 q.2.2.2.1 q.2.2.2.2 = some r := h
        refine run_kind hy n _ _ _ _ _ _ ?_ h'
        rcases nxt_go hn with e | ⟨b, e⟩
        · rw [e]; exact hi.2
        · rw [e]; exact hy b
      · have h' : (match run X n q.1 (jmp q.1 0) (mkls q.1 q.2.1) [] Sh M with
          | some r => run X n y is ls (r.1.toList ++ q.2.2) r.2.1 r.2.2
          | none => none) = some r := h
        split at h'
        · exact run_kind hy n _ _ _ _ _ _ hi.2 h'
        · injection h'
theorem ev_kind {w : Bool} (hy : ∀ b, (jmp y b).all (okK w) = true) {r : PRES} (hi : is.all (okK w) = true) (h : ev X y is ls st Sh M = some r) : isKd w r := by
  obtain ⟨n, hn⟩ := ev_iff.mp h
  exact run_kind hy n _ _ _ _ _ _ hi hn
end KND
