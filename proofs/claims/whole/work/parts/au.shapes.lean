/-! CONSTRUCTORS: shapes that grow. -/
section SHP
variable {X : Int → Int} {Sh : List SE} {M : Mem}
theorem knd_app {l : List SE} {a : Nat} (h : a < Sh.length) : knd (Sh ++ l) a = knd Sh a := by
  unfold knd
  rw [List.getElem?_append_left h]
theorem len_app {l : List SE} {a : Nat} (h : a < Sh.length) : len (Sh ++ l) a = len Sh a := by
  unfold len
  rw [List.getElem?_append_left h]
theorem rfs_app {l : List SE} {a k : Nat} (h : a < Sh.length) : rfs (Sh ++ l) a k = rfs Sh a k := by
  unfold rfs
  rw [List.getElem?_append_left h]
theorem shset_length {a k : Nat} {r : Option Nat} : (shset Sh a k r).length = Sh.length := by
  unfold shset
  split
  · rw [List.length_set]
  · rfl
theorem knd_shset {a b k : Nat} {r : Option Nat} : knd (shset Sh a k r) b = knd Sh b := by
  unfold shset
  split
  · rename_i q hq
    unfold knd
    by_cases z : a = b
    · subst z
      have hl : a < Sh.length := (List.getElem?_eq_some_iff.mp hq).1
      rw [List.getElem?_set_self hl, hq]
    · rw [List.getElem?_set_ne z]
  · rfl
theorem len_shset {a b k : Nat} {r : Option Nat} : len (shset Sh a k r) b = len Sh b := by
  unfold shset
  split
  · rename_i q hq
    unfold len
    by_cases z : a = b
    · subst z
      have hl : a < Sh.length := (List.getElem?_eq_some_iff.mp hq).1
      rw [List.getElem?_set_self hl, hq]
    · rw [List.getElem?_set_ne z]
  · rfl
end SHP
