/-! CHECKS: does the code in blocks say what the bytes say? -/
def kOf (t : ArrayType) : Nat := match t with | .int => 100 | .long => 101 | .byte => 102 | .boolean => 103 | _ => 199
/-- does a raw instruction say what a resolved one says? -/
def chkI (y : Nat) (raw i : Instr) (pc : Nat) : Bool :=
  let o := mcl y
  let tg : Int → Int → Bool := fun off b => decide ((pc : Int) + off = b) && decide (0 ≤ b)
  let mL := (mT y).2.2.1
  match i with
  | .iconst v => (match raw with
    | .iconst u => decide (u = v) && decide (-2147483648 ≤ v ∧ v < 2147483648)
    | .bipush u => decide ((Int8.ofInt u).toInt32 = Int32.ofInt v) && decide (-2147483648 ≤ v ∧ v < 2147483648)
    | .sipush u => decide ((Int16.ofInt u).toInt32 = Int32.ofInt v) && decide (-2147483648 ≤ v ∧ v < 2147483648)
    | .ldc n => (ctb o).any (fun q => decide (q.1 = n) && decide (q.2.1 = v))
    | .ldc_w n => (ctb o).any (fun q => decide (q.1 = n) && decide (q.2.1 = v))
    | _ => false)
  | .goto_w v => (match raw with
    | .lconst n => decide (((n.val : Nat) : Int) = v)
    | .ldc2_w n => (ltb o).any (fun q => decide (q.1 = n) && decide (q.2.1 = v))
    | _ => false)
  | .ldc k => (match raw with
    | .ldc n => (stb o).any (fun q => decide (q.1 = n) && decide (q.2 = k))
    | .ldc_w n => (stb o).any (fun q => decide (q.1 = n) && decide (q.2 = k))
    | _ => false)
  | .iload k => (match raw with | .iload n => decide (n = k) | .iload_n n => decide (n.val = k) | _ => false)
  | .lload k => (match raw with | .lload n => decide (n = k) | .lload_n n => decide (n.val = k) | _ => false)
  | .aload k => (match raw with | .aload n => decide (n = k) | .aload_n n => decide (n.val = k) | _ => false)
  | .istore k => decide (k < mL) && (match raw with | .istore n => decide (n = k) | .istore_n n => decide (n.val = k) | _ => false)
  | .lstore k => decide (k + 1 < mL) && (match raw with | .lstore n => decide (n = k) | .lstore_n n => decide (n.val = k) | _ => false)
  | .astore k => decide (k < mL) && (match raw with | .astore n => decide (n = k) | .astore_n n => decide (n.val = k) | _ => false)
  | .iinc k c => decide (k < mL) && (match raw with | .iinc n c2 => decide (n = k) && decide (c2 = c) | _ => false)
  | .goto b => (match raw with | .goto off => tg off b | _ => false)
  | .if_icmp c b => (match raw with | .if_icmp c2 off => decide (c2 = c) && tg off b | _ => false)
  | .ifCond c b => (match raw with | .ifCond c2 off => decide (c2 = c) && tg off b | _ => false)
  | .ifnull b => (match raw with | .ifnull off => tg off b | _ => false)
  | .ifnonnull b => (match raw with | .ifnonnull off => tg off b | _ => false)
  | .tableswitch d lo hi offs => (match raw with
    | .tableswitch d2 lo2 hi2 offs2 => decide (lo2 = lo) && decide (hi2 = hi) && tg d2 d && decide (offs2.toList.map (fun z => (pc : Int) + z) = offs.toList) && offs.toList.all (fun z => decide (0 ≤ z)) && decide ((offs.toList.length : Int) = hi - lo + 1)
    | _ => false)
  | .lookupswitch d ps => (match raw with
    | .lookupswitch d2 ps2 => tg d2 d && decide (ps2.toList.map (fun z => (z.1, (pc : Int) + z.2)) = ps.toList) && ps.toList.all (fun z => decide (0 ≤ z.2)) && (ps2.toList.zip (ps2.toList.drop 1)).all (fun (a, next) => a.1 < next.1)
    | _ => false)
  | .ireturn => decide ((mT y).2.2.2 = some .int) && decide (raw = .ireturn)
  | .freturn => decide ((mT y).2.2.2 = some .boolean) && decide (raw = .ireturn)
  | .lreturn => decide ((mT y).2.2.2 = some .long) && decide (raw = .lreturn)
  | .areturn => (match (mT y).2.2.2 with | some (.object _) => true | _ => false) && decide (raw = .areturn)
  | .return_ => decide ((mT y).2.2.2 = none) && decide (raw = .return_)
  | .invokeinterface k c => decide (mdep k < mdep y) && decide ((mT k).2.2.1 ≤ 11) && (match raw with
    | .invokevirtual n => (mwd k).1 == 0 && (mtb o).any (fun q => decide (q.1 = n) && decide (q.2.1 = k)) && decide ((parseMethodDescriptor (mT k).1.desc).map (fun d => d.parameters.length) = some (c - 1)) && decide (0 < c)
    | .invokestatic n => (mwd k).1 == 1 && (mtb o).any (fun q => decide (q.1 = n) && decide (q.2.1 = k)) && decide ((parseMethodDescriptor (mT k).1.desc).map (fun d => d.parameters.length) = some c)
    | .invokespecial n => (mwd k).1 == 2 && (mtb o).any (fun q => decide (q.1 = n) && decide (q.2.1 = k)) && decide ((parseMethodDescriptor (mT k).1.desc).map (fun d => d.parameters.length) = some (c - 1)) && decide (0 < c)
    | _ => false)
  | .invokedynamic j => (match raw with
    | .invokestatic n => (j == 0 || j == 4 || j == 5 || j == 6) && decide (1 ≤ mdep y) && (itb o).any (fun q => decide (q.1 = n) && decide (q.2.1 = j))
    | .invokevirtual n => (j == 1 || j == 2) && decide (4 ≤ mdep y ∨ j = 1 ∧ 2 ≤ mdep y) && (itb o).any (fun q => decide (q.1 = n) && decide (q.2.1 = j))
    | .invokespecial n => j == 3 && decide (1 ≤ mdep y) && (itb o).any (fun q => decide (q.1 = n) && decide (q.2.1 = 3))
    | _ => false)
  | .getfield n => decide (fty (n / 64) (n % 64) = 0 ∨ fty (n / 64) (n % 64) = 3) && (match raw with | .getfield j => (ftb o).any (fun q => decide (q.1 = j) && decide (q.2.1 = n)) | _ => false)
  | .getstatic n => decide (fty (n / 64) (n % 64) = 1) && (match raw with | .getfield j => (ftb o).any (fun q => decide (q.1 = j) && decide (q.2.1 = n)) | _ => false)
  | .checkcast n => decide (fty (n / 64) (n % 64) = 2) && (match raw with | .getfield j => (ftb o).any (fun q => decide (q.1 = j) && decide (q.2.1 = n)) | _ => false)
  | .putfield n => decide (fty (n / 64) (n % 64) = 0) && !(ffin n) && (match raw with | .putfield j => (ftb o).any (fun q => decide (q.1 = j) && decide (q.2.1 = n)) | _ => false)
  | .instanceof n => decide (fty (n / 64) (n % 64) = 3) && !(ffin n) && (match raw with | .putfield j => (ftb o).any (fun q => decide (q.1 = j) && decide (q.2.1 = n)) | _ => false)
  | .putstatic n => decide (fty (n / 64) (n % 64) = 1) && !(ffin n) && (match raw with | .putfield j => (ftb o).any (fun q => decide (q.1 = j) && decide (q.2.1 = n)) | _ => false)
  | .multianewarray n _ => decide (fty (n / 64) (n % 64) = 2) && (match cty (n / 64) (n % 64) with | .object _ => true | .array _ => true | _ => false) && ffin n && decide ((mT y).1.name = "<init>") && decide (n / 64 = o) && (match raw with | .putfield j => (ftb o).any (fun q => decide (q.1 = j) && decide (q.2.1 = n)) | _ => false)
  | .new c => (match raw with | .new j => (ktb o).any (fun q => decide (q.1 = j) && decide (q.2.1 = c)) | _ => false)
  | .newarray t => decide (kOf t < 104) && (match raw with | .newarray t2 => decide (t2 = t) | _ => false)
  | .anewarray k => (match raw with | .anewarray j => (k == 104 && (ktb o).any (fun q => decide (q.1 = j) && decide (q.2.1 = 10))) || (k == 105 && (ktb o).any (fun q => decide (q.1 = j) && decide (q.2.1 = 11))) | _ => false)
  | _ => decide (raw = i)
/-- how many bytes a raw instruction takes (0: not asked) -/
def isz (raw : Instr) : Nat := match raw with
  | .bipush _ | .ldc _ | .iload _ | .lload _ | .aload _ | .istore _ | .lstore _ | .astore _ | .newarray _ => 2
  | .sipush _ | .ldc_w _ | .ldc2_w _ | .iinc _ _ | .goto _ | .if_icmp _ _ | .ifCond _ _ | .ifnull _ | .ifnonnull _ | .getfield _ | .putfield _ | .invokevirtual _ | .invokestatic _ | .invokespecial _ | .new _ | .anewarray _ => 3
  | .tableswitch _ _ _ _ | .lookupswitch _ _ => 0
  | _ => 1
def isEnd (i : Instr) : Bool := match i with
  | .goto _ | .tableswitch _ _ _ _ | .lookupswitch _ _ | .ireturn | .freturn | .lreturn | .areturn | .return_ => true
  | _ => false
/-- does the method's code, from a place on, say what a list of resolved instructions says? -/
def chkL (y : Nat) (cc : ByteArray) : Nat → List Instr → Bool
  | _, [] => false
  | pc, i :: is => match i with
    | .jsr b => decide ((pc : Int) = b)
    | i => match decode cc pc with
      | .ok (raw, ln) => chkI y raw i pc && (isz raw == 0 || isz raw == ln) && (isEnd i || chkL y cc (pc + ln) is)
      | .error _ => false
/-- all blocks of a method; every place that is jumped to has one -/
def tgs (i : Instr) : List Int := match i with
  | .goto b | .jsr b | .if_icmp _ b | .ifCond _ b | .ifnull b | .ifnonnull b => [b]
  | .tableswitch d _ _ offs => d :: offs.toList
  | .lookupswitch d ps => d :: ps.toList.map (fun q => q.2)
  | _ => []
def hasb : List (Int × List Instr) → Int → Bool
  | [], _ => false
  | q :: l, b => decide (q.1 = b) || hasb l b
def chkB (y : Nat) (cc : ByteArray) (bl : List (Int × List Instr)) (q : Int × List Instr) : Bool := decide (0 ≤ q.1) && chkL y cc q.1.toNat q.2 && q.2.all (fun i => (tgs i).all (fun b => hasb bl b))
def chkM (y : Nat) (cc : ByteArray) (bl : List (Int × List Instr)) : Bool := bl.all (chkB y cc bl)
