/-! CONSTRUCTORS: shapes that grow. -/
section SHP
variable {X : Int → Int} {Sh : List SE} {M : Mem}
theorem knd_app {l : List SE} {a : Nat} (h : a < Sh.length) : knd (Sh ++ l) a = knd Sh a := by
  unfold knd
  rw [List.getElem?_append_left h]
theorem len_app {l : List SE} {a : Nat} (h : a < Sh.length) : len (Sh ++ l) a = len Sh a := by
  unfold len
  rw [List.getElem?_append_left h]
theorem rfs_app {l : List SE} {a k : Nat} (h : a < Sh.length) : rfs (Sh ++ l) a k = rfs Sh a k := by
  unfold rfs
  rw [List.getElem?_append_left h]
end SHP
