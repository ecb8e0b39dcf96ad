/-! The KINDS of all calls' answers. -/
section KNS
variable {X : Int → Int} {Sh : List SE} {M : Mem}
theorem fndb_all {f : Instr → Bool} : ∀ {l : List (Int × List Instr)} {b : Int}, l.all (fun q => q.2.all f) = true → (fndb l b).all f = true
  | [], _, _ => rfl
  | q :: l, b, h => by
    rw [List.all_cons, Bool.and_eq_true] at h
    unfold fndb
    by_cases z : q.1 = b
    · rw [if_pos z]; exact h.1
    · rw [if_neg z]; exact fndb_all h.2
def kdB (w : Bool) (y : Nat) : Bool := (cdl.getD y []).all (fun q => q.2.all (okK w))
theorem evc_kind {w : Bool} {k : Nat} (hk : kdB w k = true) {args : List PV} {r : PRES} (h : evc X k args Sh M = some r) : isKd w r := by
  unfold evc at h
  split at h
  · exact ev_kind (fun b => fndb_all hk) (fndb_all hk) h
  · injection h
theorem kd_I : ([16, 19, 25, 33, 34, 36, 78, 89, 90, 91, 94, 96, 98, 102, 105, 107, 111, 114, 115, 119, 120, 121, 123, 129, 131, 134, 136, 138, 140, 153, 155, 156, 158, 160, 161, 163, 167, 169, 171, 174, 175, 180, 183, 185, 186, 188, 189, 191, 192, 193, 195, 197, 198, 200, 201, 203, 206, 209, 217, 218, 219, 221] : List Nat).all (kdB true) = true := by decide +kernel
theorem kd_L : ([17, 18, 30] : List Nat).all (kdB false) = true := by decide +kernel
theorem OP_I {kc km : Nat} {ac am : List PV} (h : OP X kc ac km am M) (hk : kdB true kc = true) : ∃ z M1 M2, evc X kc (vR (some 0) :: ac) SH0 M = some (some (vI z), SH0, M1) ∧ evc X km (vR (some 140) :: am) SH0 M1 = some (some (vI z), SH0, M2) ∧ RR M2 := by
  obtain ⟨v, M1, M2, e1, e2, r⟩ := h
  obtain ⟨z, hz⟩ := evc_kind hk e1
  have hz' : some v = some (vI z) := hz
  injection hz' with hz'
  subst hz'
  exact ⟨z, M1, M2, e1, e2, r⟩
theorem OP_L {kc km : Nat} {ac am : List PV} (h : OP X kc ac km am M) (hk : kdB false kc = true) : ∃ z M1 M2, evc X kc (vR (some 0) :: ac) SH0 M = some (some (vL z), SH0, M1) ∧ evc X km (vR (some 140) :: am) SH0 M1 = some (some (vL z), SH0, M2) ∧ RR M2 := by
  obtain ⟨v, M1, M2, e1, e2, r⟩ := h
  obtain ⟨z, hz⟩ := evc_kind hk e1
  have hz' : some v = some (vL z) := hz
  injection hz' with hz'
  subst hz'
  exact ⟨z, M1, M2, e1, e2, r⟩
end KNS
