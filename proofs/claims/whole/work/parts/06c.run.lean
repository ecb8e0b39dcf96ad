/-! THE PURE INTERPRETER of resolved bytecode: values are Ints (int, long), logical references, string constants; the heap is a list of shapes and a total function of contents. -/
abbrev PV : Type := Int ⊕ Int ⊕ Option Nat ⊕ Nat
abbrev vI (z : Int) : PV := .inl z
abbrev vL (z : Int) : PV := .inr (.inl z)
abbrev vR (q : Option Nat) : PV := .inr (.inr (.inl q))
abbrev vS (k : Nat) : PV := .inr (.inr (.inr k))
/-- kind (0 to 12 an object of that class, 100 int[], 101 long[], 102 byte[], 103 boolean[], 104 Tray[], 105 Mark[]), size, references -/
abbrev SE : Type := Nat × Nat × List (Option Nat)
abbrev Mem : Type := Nat → Int → Int
abbrev PLS : Type := List (Option PV)
abbrev PST : Type := PLS × List PV × List SE × Mem
abbrev PRES : Type := Option PV × List SE × Mem
def w32 (z : Int) : Int := z.bmod 4294967296
def w64 (z : Int) : Int := z.bmod 18446744073709551616
def o32 (f : Int32 → Int32 → Int32) (a b : Int) : Int := (f (Int32.ofInt a) (Int32.ofInt b)).toInt
def o64 (f : Int64 → Int64 → Int64) (a b : Int) : Int := (f (Int64.ofInt a) (Int64.ofInt b)).toInt
def i_and (a b : Int) : Int := o32 (fun x y => x &&& y) a b
def i_or (a b : Int) : Int := o32 (fun x y => x ||| y) a b
def i_xor (a b : Int) : Int := o32 (fun x y => x ^^^ y) a b
def i_div (a b : Int) : Int := o32 (fun x y => x / y) a b
def i_rem (a b : Int) : Int := o32 (fun x y => x - x / y * y) a b
def i_shl (a b : Int) : Int := o32 (fun x y => x <<< (y &&& 31)) a b
def i_shr (a b : Int) : Int := o32 (fun x y => x >>> (y &&& 31)) a b
def l_and (a b : Int) : Int := o64 (fun x y => x &&& y) a b
def l_or (a b : Int) : Int := o64 (fun x y => x ||| y) a b
def l_div (a b : Int) : Int := o64 (fun x y => x / y) a b
def l_rem (a b : Int) : Int := o64 (fun x y => x - x / y * y) a b
def l_shl (a b : Int) : Int := (Int64.ofInt a <<< ((Int32.ofInt b).toInt64 &&& 63)).toInt
def i_b (a : Int) : Int := (Int32.ofInt a).toInt8.toInt32.toInt
def i_s (a : Int) : Int := (Int32.ofInt a).toInt16.toInt32.toInt
def l_i (a : Int) : Int := (Int64.ofInt a).toInt32.toInt
def lgt : PLS → Nat → Option PV
  | [], _ => none
  | o :: _, 0 => o
  | _ :: l, k + 1 => lgt l k
def lset : PLS → Nat → Option PV → PLS
  | [], _, _ => []
  | _ :: l, 0, v => v :: l
  | o :: l, k + 1, v => o :: lset l k v
/-- the long whose second half is at k goes -/
def lclr : PLS → Nat → PLS
  | ls, 0 => ls
  | ls, k + 1 => match lgt ls k with
    | some (.inr (.inl _)) => lset ls k none
    | _ => ls
def lst1 (ls : PLS) (k : Nat) (v : PV) : PLS := lset (lclr ls k) k (some v)
def lst2 (ls : PLS) (k : Nat) (v : PV) : PLS := lset (lset (lclr ls k) k (some v)) (k + 1) none
def knd (Sh : List SE) (a : Nat) : Nat := match Sh[a]? with | some q => q.1 | none => 999
def len (Sh : List SE) (a : Nat) : Int := match Sh[a]? with | some q => (q.2.1 : Int) | none => 0
def rfs (Sh : List SE) (a k : Nat) : Option Nat := match Sh[a]? with | some q => q.2.2.getD k none | none => none
def shset (Sh : List SE) (a k : Nat) (r : Option Nat) : List SE := match Sh[a]? with | some q => Sh.set a (q.1, q.2.1, q.2.2.set k r) | none => Sh
def up (M : Mem) (a : Nat) (j z : Int) : Mem := fun b i => if b = a ∧ i = j then z else M b i
def clr (M : Mem) (a : Nat) : Mem := fun b i => if b = a then 0 else M b i
def cpy (M : Mem) (s : Nat) (sp : Int) (d : Nat) (dp n : Int) : Mem := fun b i => if b = d ∧ dp ≤ i ∧ i < dp + n then M s (sp + (i - dp)) else M b i
def slen (k : Nat) : Int := ((strb.getD k []).length : Int)
def schr (k : Nat) (j : Int) : Int := (strb.getD k []).getD j.toNat 0
/-- a simple instruction -/
def stp (X : Int → Int) (i : Instr) (ls : PLS) (st : List PV) (Sh : List SE) (M : Mem) : Option PST :=
  match i with
  | .iconst v => some (ls, vI v :: st, Sh, M)
  | .goto_w v => some (ls, vL v :: st, Sh, M)
  | .ldc k => some (ls, vS k :: st, Sh, M)
  | .aconst_null => some (ls, vR none :: st, Sh, M)
  | .iload k => (match lgt ls k with | some (.inl z) => some (ls, vI z :: st, Sh, M) | _ => none)
  | .lload k => (match lgt ls k with | some (.inr (.inl z)) => some (ls, vL z :: st, Sh, M) | _ => none)
  | .aload k => (match lgt ls k with | some (.inr (.inr q)) => some (ls, .inr (.inr q) :: st, Sh, M) | _ => none)
  | .istore k => (match st with | .inl z :: st => some (lst1 ls k (vI z), st, Sh, M) | _ => none)
  | .lstore k => (match st with | .inr (.inl z) :: st => some (lst2 ls k (vL z), st, Sh, M) | _ => none)
  | .astore k => (match st with | .inr (.inr q) :: st => some (lst1 ls k (.inr (.inr q)), st, Sh, M) | _ => none)
  | .iinc k c => (match lgt ls k with | some (.inl z) => some (lst1 ls k (vI (w32 (z + c))), st, Sh, M) | _ => none)
  | .iadd => (match st with | .inl b :: .inl a :: st => some (ls, vI (w32 (a + b)) :: st, Sh, M) | _ => none)
  | .isub => (match st with | .inl b :: .inl a :: st => some (ls, vI (w32 (a - b)) :: st, Sh, M) | _ => none)
  | .imul => (match st with | .inl b :: .inl a :: st => some (ls, vI (w32 (a * b)) :: st, Sh, M) | _ => none)
  | .ineg => (match st with | .inl a :: st => some (ls, vI (w32 (-a)) :: st, Sh, M) | _ => none)
  | .idiv => (match st with | .inl b :: .inl a :: st => if b = 0 then none else some (ls, vI (i_div a b) :: st, Sh, M) | _ => none)
  | .irem => (match st with | .inl b :: .inl a :: st => if b = 0 then none else some (ls, vI (i_rem a b) :: st, Sh, M) | _ => none)
  | .iand => (match st with | .inl b :: .inl a :: st => some (ls, vI (i_and a b) :: st, Sh, M) | _ => none)
  | .ior => (match st with | .inl b :: .inl a :: st => some (ls, vI (i_or a b) :: st, Sh, M) | _ => none)
  | .ishl => (match st with | .inl b :: .inl a :: st => some (ls, vI (i_shl a b) :: st, Sh, M) | _ => none)
  | .ishr => (match st with | .inl b :: .inl a :: st => some (ls, vI (i_shr a b) :: st, Sh, M) | _ => none)
  | .ladd => (match st with | .inr (.inl b) :: .inr (.inl a) :: st => some (ls, vL (w64 (a + b)) :: st, Sh, M) | _ => none)
  | .lsub => (match st with | .inr (.inl b) :: .inr (.inl a) :: st => some (ls, vL (w64 (a - b)) :: st, Sh, M) | _ => none)
  | .lmul => (match st with | .inr (.inl b) :: .inr (.inl a) :: st => some (ls, vL (w64 (a * b)) :: st, Sh, M) | _ => none)
  | .ldiv => (match st with | .inr (.inl b) :: .inr (.inl a) :: st => if b = 0 then none else some (ls, vL (l_div a b) :: st, Sh, M) | _ => none)
  | .lrem => (match st with | .inr (.inl b) :: .inr (.inl a) :: st => if b = 0 then none else some (ls, vL (l_rem a b) :: st, Sh, M) | _ => none)
  | .land => (match st with | .inr (.inl b) :: .inr (.inl a) :: st => some (ls, vL (l_and a b) :: st, Sh, M) | _ => none)
  | .lor => (match st with | .inr (.inl b) :: .inr (.inl a) :: st => some (ls, vL (l_or a b) :: st, Sh, M) | _ => none)
  | .lshl => (match st with | .inl b :: .inr (.inl a) :: st => some (ls, vL (l_shl a b) :: st, Sh, M) | _ => none)
  | .i2l => (match st with | .inl a :: st => some (ls, vL a :: st, Sh, M) | _ => none)
  | .l2i => (match st with | .inr (.inl a) :: st => some (ls, vI (l_i a) :: st, Sh, M) | _ => none)
  | .i2b => (match st with | .inl a :: st => some (ls, vI (i_b a) :: st, Sh, M) | _ => none)
  | .i2s => (match st with | .inl a :: st => some (ls, vI (i_s a) :: st, Sh, M) | _ => none)
  | .lcmp => (match st with | .inr (.inl b) :: .inr (.inl a) :: st => some (ls, vI (if a < b then -1 else if a = b then 0 else 1) :: st, Sh, M) | _ => none)
  | .dup => (match st with
    | .inl a :: st => some (ls, .inl a :: .inl a :: st, Sh, M)
    | .inr (.inr q) :: st => some (ls, .inr (.inr q) :: .inr (.inr q) :: st, Sh, M)
    | _ => none)
  | .dup2 => (match st with | .inl j :: .inr (.inr q) :: st => some (ls, .inl j :: .inr (.inr q) :: .inl j :: .inr (.inr q) :: st, Sh, M) | _ => none)
  | .pop => (match st with
    | .inl _ :: st => some (ls, st, Sh, M)
    | .inr (.inr _) :: st => some (ls, st, Sh, M)
    | _ => none)
  | .arraylength => (match st with
    | .inr (.inr (.inl (some a))) :: st => if 100 ≤ knd Sh a ∧ knd Sh a < 106 then some (ls, vI (len Sh a) :: st, Sh, M) else none
    | .inr (.inr (.inr 1000)) :: st => some (ls, vI (X (-1)) :: st, Sh, M)
    | _ => none)
  | .iaload => (match st with
    | .inl j :: .inr (.inr (.inl (some a))) :: st => if knd Sh a = 100 ∧ 0 ≤ j ∧ j < len Sh a then some (ls, vI (M a j) :: st, Sh, M) else none
    | .inl j :: .inr (.inr (.inr 1000)) :: st => if 0 ≤ j ∧ j < X (-1) then some (ls, vI (X j) :: st, Sh, M) else none
    | _ => none)
  | .laload => (match st with | .inl j :: .inr (.inr (.inl (some a))) :: st => if knd Sh a = 101 ∧ 0 ≤ j ∧ j < len Sh a then some (ls, vL (M a j) :: st, Sh, M) else none | _ => none)
  | .baload => (match st with | .inl j :: .inr (.inr (.inl (some a))) :: st => if (knd Sh a = 102 ∨ knd Sh a = 103) ∧ 0 ≤ j ∧ j < len Sh a then some (ls, vI (M a j) :: st, Sh, M) else none | _ => none)
  | .aaload => (match st with | .inl j :: .inr (.inr (.inl (some a))) :: st => if (knd Sh a = 104 ∨ knd Sh a = 105) ∧ 0 ≤ j ∧ j < len Sh a then some (ls, vR (rfs Sh a j.toNat) :: st, Sh, M) else none | _ => none)
  | .iastore => (match st with | .inl z :: .inl j :: .inr (.inr (.inl (some a))) :: st => if knd Sh a = 100 ∧ 0 ≤ j ∧ j < len Sh a then some (ls, st, Sh, up M a j z) else none | _ => none)
  | .lastore => (match st with | .inr (.inl z) :: .inl j :: .inr (.inr (.inl (some a))) :: st => if knd Sh a = 101 ∧ 0 ≤ j ∧ j < len Sh a then some (ls, st, Sh, up M a j z) else none | _ => none)
  | .bastore => (match st with | .inl z :: .inl j :: .inr (.inr (.inl (some a))) :: st => if (knd Sh a = 102 ∧ -128 ≤ z ∧ z < 128 ∨ knd Sh a = 103 ∧ 0 ≤ z ∧ z < 2) ∧ 0 ≤ j ∧ j < len Sh a then some (ls, st, Sh, up M a j z) else none | _ => none)
  | .aastore => (match st with | .inr (.inr (.inl (some r))) :: .inl j :: .inr (.inr (.inl (some a))) :: st => if (knd Sh a = 104 ∧ knd Sh r = 10 ∨ knd Sh a = 105 ∧ knd Sh r = 11) ∧ 0 ≤ j ∧ j < len Sh a then some (ls, st, shset Sh a j.toNat (some r), M) else none | _ => none)
  | .getfield n => (match st with | .inr (.inr (.inl (some a))) :: st => if knd Sh a = n / 64 then some (ls, vI (M a ((n % 64 : Nat) : Int)) :: st, Sh, M) else none | _ => none)
  | .getstatic n => (match st with | .inr (.inr (.inl (some a))) :: st => if knd Sh a = n / 64 then some (ls, vL (M a ((n % 64 : Nat) : Int)) :: st, Sh, M) else none | _ => none)
  | .checkcast n => (match st with | .inr (.inr (.inl (some a))) :: st => if knd Sh a = n / 64 then some (ls, vR (rfs Sh a (n % 64)) :: st, Sh, M) else none | _ => none)
  | .putfield n => (match st with | .inl z :: .inr (.inr (.inl (some a))) :: st => if knd Sh a = n / 64 then some (ls, st, Sh, up M a ((n % 64 : Nat) : Int) z) else none | _ => none)
  | .instanceof n => (match st with | .inl z :: .inr (.inr (.inl (some a))) :: st => if knd Sh a = n / 64 ∧ 0 ≤ z ∧ z < 2 then some (ls, st, Sh, up M a ((n % 64 : Nat) : Int) z) else none | _ => none)
  | .putstatic n => (match st with | .inr (.inl z) :: .inr (.inr (.inl (some a))) :: st => if knd Sh a = n / 64 then some (ls, st, Sh, up M a ((n % 64 : Nat) : Int) z) else none | _ => none)
  | .multianewarray n _ => (match st with | .inr (.inr (.inl q)) :: .inr (.inr (.inl (some a))) :: st => if knd Sh a = n / 64 then some (ls, st, shset Sh a (n % 64) q, M) else none | _ => none)
  | .new c => some (ls, vR (some Sh.length) :: st, Sh ++ [(c, cN c, List.replicate (cN c) none)], clr M Sh.length)
  | .newarray t => (match st with | .inl n :: st => if 0 ≤ n ∧ n ≤ 1000000 then some (ls, vR (some Sh.length) :: st, Sh ++ [(kOf t, n.toNat, [])], clr M Sh.length) else none | _ => none)
  | .anewarray k => (match st with | .inl n :: st => if 0 ≤ n ∧ n ≤ 1000 then some (ls, vR (some Sh.length) :: st, Sh ++ [(k, n.toNat, List.replicate n.toNat none)], clr M Sh.length) else none | _ => none)
  | .invokedynamic 0 => (match st with
    | [.inl n, .inl dp, .inr (.inr (.inl (some d))), .inl sp, .inr (.inr (.inl (some s)))] =>
      if knd Sh s = knd Sh d ∧ (knd Sh d = 100 ∨ knd Sh d = 101) ∧ 0 ≤ sp ∧ 0 ≤ dp ∧ 0 ≤ n ∧ sp + n ≤ len Sh s ∧ dp + n ≤ len Sh d then some (ls, [], Sh, cpy M s sp d dp n) else none
    | _ => none)
  | .invokedynamic 1 => (match st with | .inr (.inr (.inr k)) :: st => if k < 21 ∧ st.length ≤ 4 then some (ls, vI (slen k) :: st, Sh, M) else none | _ => none)
  | .invokedynamic 2 => (match st with | .inl j :: .inr (.inr (.inr k)) :: st => if k < 21 ∧ 0 ≤ j ∧ j < slen k ∧ st.length ≤ 4 then some (ls, vI (schr k j) :: st, Sh, M) else none | _ => none)
  | .invokedynamic 4 => (match st with | .inl b :: .inl a :: st => if st.length ≤ 4 then some (ls, vI (if b < a then b else a) :: st, Sh, M) else none | _ => none)
  | .invokedynamic 5 => (match st with | .inl a :: st => if st.length ≤ 4 then some (ls, vI (if 0 ≤ a then a else w32 (0 - a)) :: st, Sh, M) else none | _ => none)
  | .invokedynamic 6 => (match st with | .inl b :: .inl a :: st => if st.length ≤ 4 then some (ls, vI (if a < b then b else a) :: st, Sh, M) else none | _ => none)
  | .invokedynamic 3 => (match st with | .inr (.inr (.inl (some _))) :: st => if st.length ≤ 4 then some (ls, st, Sh, M) else none | _ => none)
  | _ => none
def cmpI (c : Jvm.ClassFile.Cond) (a b : Int) : Bool := match c with
  | .eq => decide (a = b) | .ne => decide (a ≠ b) | .lt => decide (a < b) | .ge => decide (b ≤ a) | .gt => decide (b < a) | .le => decide (a ≤ b)
def tsw (d lo hi : Int) (offs : Array Int) (u : Int) : Int := if u < lo ∨ hi < u then d else offs.toList.getD (u - lo).toNat d
def lsw (d : Int) (ps : List (Int × Int)) (u : Int) : Int := match ps with | [] => d | q :: l => if u = q.1 then q.2 else lsw d l u
/-- the locals of a call: a long takes two; the script is nobody's -/
def mkl : List PV → PLS
  | [] => []
  | .inr (.inl z) :: l => some (vL z) :: none :: mkl l
  | .inr (.inr (.inr k)) :: l => (if k < 21 then some (vS k) else none) :: mkl l
  | v :: l => some v :: mkl l
def mkls (k : Nat) (args : List PV) : PLS := let l := mkl args; l ++ List.replicate ((mT k).2.2.1 - l.length) none
/-- the receiver of a call is what it must be -/
def rcv (k : Nat) (args : List PV) (Sh : List SE) : Bool := match (mwd k).1 with
  | 0 => (match args with | .inr (.inr (.inl (some a))) :: _ => knd Sh a == mcl k | _ => false)
  | 2 => (match args with | .inr (.inr (.inl (some _))) :: _ => true | _ => false)
  | _ => true
def isCtl (i : Instr) : Bool := match i with
  | .goto _ | .jsr _ | .if_icmp _ _ | .ifCond _ _ | .ifnull _ | .ifnonnull _ | .tableswitch _ _ _ _ | .lookupswitch _ _ | .ireturn | .freturn | .lreturn | .areturn | .return_ | .invokeinterface _ _ => true
  | _ => false
def run (X : Int → Int) : Nat → Nat → List Instr → PLS → List PV → List SE → Mem → Option PRES
  | 0, _, _, _, _, _, _ => none
  | _ + 1, _, [], _, _, _, _ => none
  | n + 1, y, i :: is, ls, st, Sh, M => match i with
    | .goto b => run X n y (jmp y b) ls st Sh M
    | .jsr b => run X n y (jmp y b) ls st Sh M
    | .if_icmp c b => (match st with | .inl v :: .inl u :: st => if cmpI c u v = true then run X n y (jmp y b) ls st Sh M else run X n y is ls st Sh M | _ => none)
    | .ifCond c b => (match st with | .inl u :: st => if cmpI c u 0 = true then run X n y (jmp y b) ls st Sh M else run X n y is ls st Sh M | _ => none)
    | .ifnull b => (match st with | .inr (.inr (.inl none)) :: st => run X n y (jmp y b) ls st Sh M | .inr (.inr (.inl (some _))) :: st => run X n y is ls st Sh M | _ => none)
    | .ifnonnull b => (match st with | .inr (.inr (.inl (some _))) :: st => run X n y (jmp y b) ls st Sh M | .inr (.inr (.inl none)) :: st => run X n y is ls st Sh M | _ => none)
    | .tableswitch d lo hi offs => (match st with | .inl u :: st => run X n y (jmp y (tsw d lo hi offs u)) ls st Sh M | _ => none)
    | .lookupswitch d ps => (match st with | .inl u :: st => run X n y (jmp y (lsw d ps.toList u)) ls st Sh M | _ => none)
    | .ireturn => (match st with | [.inl z] => some (some (vI z), Sh, M) | _ => none)
    | .freturn => (match st with | [.inl z] => if 0 ≤ z ∧ z < 2 then some (some (vI z), Sh, M) else none | _ => none)
    | .lreturn => (match st with | [.inr (.inl z)] => some (some (vL z), Sh, M) | _ => none)
    | .areturn => (match st with | [.inr (.inr (.inl q))] => some (some (vR q), Sh, M) | _ => none)
    | .return_ => (match st with | [] => some (none, Sh, M) | _ => none)
    | .invokeinterface k c =>
      if c ≤ st.length ∧ (st.drop c).length ≤ 4 ∧ (mkl (st.take c).reverse).length ≤ (mT k).2.2.1 ∧ rcv k (st.take c).reverse Sh = true then
        (match run X n k (jmp k 0) (mkls k (st.take c).reverse) [] Sh M with
        | some r => run X n y is ls (r.1.toList ++ st.drop c) r.2.1 r.2.2
        | none => none)
      else none
    | i => (match stp X i ls st Sh M with | some q => run X n y is q.1 q.2.1 q.2.2.1 q.2.2.2 | none => none)
