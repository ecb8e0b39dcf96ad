/-! THE EQUATIONS of 'ev', instruction by instruction. -/
section EVQ
variable {X : Int → Int} {y : Nat} {is : List Instr} {ls : PLS} {st : List PV} {Sh : List SE} {M : Mem}
theorem lgt_0 {o : Option PV} {l : PLS} : lgt (o :: l) 0 = o := rfl
theorem lgt_s {o : Option PV} {l : PLS} {k : Nat} : lgt (o :: l) (k + 1) = lgt l k := rfl
theorem lset_0 {o v : Option PV} {l : PLS} : lset (o :: l) 0 v = v :: l := rfl
theorem lset_s {o v : Option PV} {l : PLS} {k : Nat} : lset (o :: l) (k + 1) v = o :: lset l k v := rfl
theorem lst1_0 {o : Option PV} {l : PLS} {v : PV} : lst1 (o :: l) 0 v = some v :: l := rfl
theorem lst1_s {ls : PLS} {k : Nat} {v : PV} : lst1 ls (k + 1) v = lset (match lgt ls k with | some (.inr (.inl _)) => lset ls k none | _ => ls) (k + 1) (some v) := rfl
theorem lst2_0 {o : Option PV} {l : PLS} {v : PV} : lst2 (o :: l) 0 v = some v :: lset l 0 none := rfl
theorem lst2_s {ls : PLS} {k : Nat} {v : PV} : lst2 ls (k + 1) v = lset (lset (match lgt ls k with | some (.inr (.inl _)) => lset ls k none | _ => ls) (k + 1) (some v)) (k + 2) none := rfl
theorem ev_stp {i : Instr} (hctl : isCtl i = false) : ev X y (i :: is) ls st Sh M = (match stp X i ls st Sh M with | some q => ev X y is q.1 q.2.1 q.2.2.1 q.2.2.2 | none => none) := by
  rw [ev_bod, nxt_simple hctl]
  cases stp X i ls st Sh M <;> rfl
/-- a call with its guards -/
noncomputable def evc (X : Int → Int) (k : Nat) (args : List PV) (Sh : List SE) (M : Mem) : Option PRES := if (mkl args).length ≤ (mT k).2.2.1 ∧ rcv k args Sh = true then ev X k (jmp k 0) (mkls k args) [] Sh M else none
theorem evc_go {k : Nat} {args : List PV} (h1 : (mkl args).length ≤ (mT k).2.2.1) (h2 : rcv k args Sh = true) : evc X k args Sh M = ev X k (jmp k 0) (mkls k args) [] Sh M := if_pos ⟨h1, h2⟩
theorem ev_call {k c : Nat} (hc : c ≤ st.length) : ev X y (.invokeinterface k c :: is) ls st Sh M = if (st.drop c).length ≤ 4 then (match evc X k (st.take c).reverse Sh M with | some r => ev X y is ls (r.1.toList ++ st.drop c) r.2.1 r.2.2 | none => none) else none := by
  rw [ev_bod]
  unfold nxt evc
  dsimp only
  by_cases h1 : (st.drop c).length ≤ 4
  · rw [if_pos h1]
    by_cases h2 : (mkl (st.take c).reverse).length ≤ (mT k).2.2.1 ∧ rcv k (st.take c).reverse Sh = true
    · rw [if_pos ⟨hc, h1, h2.1, h2.2⟩, if_pos h2]
      rfl
    · rw [if_neg (fun h => h2 h.2.2), if_neg h2]
      rfl
  · rw [if_neg (fun h => h1 h.2.1), if_neg h1]
    rfl
theorem ev_iconst {v : Int} : ev X y (.iconst v :: is) ls (st) Sh M = ev X y is ls (vI v :: st) Sh M := by rw [ev_stp rfl]; rfl
theorem ev_lconst {v : Int} : ev X y (.goto_w v :: is) ls (st) Sh M = ev X y is ls (vL v :: st) Sh M := by rw [ev_stp rfl]; rfl
theorem ev_ldc {k : Nat} : ev X y (.ldc k :: is) ls (st) Sh M = ev X y is ls (vS k :: st) Sh M := by rw [ev_stp rfl]; rfl
theorem ev_null : ev X y (.aconst_null :: is) ls (st) Sh M = ev X y is ls (vR none :: st) Sh M := by rw [ev_stp rfl]; rfl
theorem ev_iload {k : Nat} : ev X y (.iload k :: is) ls (st) Sh M = (match lgt ls k with | some (.inl z) => ev X y is ls (vI z :: st) Sh M | _ => none) := by rw [ev_stp rfl]; simp only [stp]; rcases lgt ls k with _ | z | z | q <;> rfl
theorem ev_lload {k : Nat} : ev X y (.lload k :: is) ls (st) Sh M = (match lgt ls k with | some (.inr (.inl z)) => ev X y is ls (vL z :: st) Sh M | _ => none) := by rw [ev_stp rfl]; simp only [stp]; rcases lgt ls k with _ | z | z | q <;> rfl
theorem ev_aload {k : Nat} : ev X y (.aload k :: is) ls (st) Sh M = (match lgt ls k with | some (.inr (.inr q)) => ev X y is ls (.inr (.inr q) :: st) Sh M | _ => none) := by rw [ev_stp rfl]; simp only [stp]; rcases lgt ls k with _ | z | z | q <;> rfl
theorem ev_istore {k : Nat} {z : Int} : ev X y (.istore k :: is) ls (.inl z :: st) Sh M = ev X y is (lst1 ls k (vI z)) (st) Sh M := by rw [ev_stp rfl]; rfl
theorem ev_lstore {k : Nat} {z : Int} : ev X y (.lstore k :: is) ls (.inr (.inl z) :: st) Sh M = ev X y is (lst2 ls k (vL z)) (st) Sh M := by rw [ev_stp rfl]; rfl
theorem ev_astore {k : Nat} {q : Option Nat ⊕ Nat} : ev X y (.astore k :: is) ls (.inr (.inr q) :: st) Sh M = ev X y is (lst1 ls k (.inr (.inr q))) (st) Sh M := by rw [ev_stp rfl]; rfl
theorem ev_iinc {k : Nat} {c : Int} : ev X y (.iinc k c :: is) ls (st) Sh M = (match lgt ls k with | some (.inl z) => ev X y is (lst1 ls k (vI (w32 (z + c)))) (st) Sh M | _ => none) := by rw [ev_stp rfl]; simp only [stp]; rcases lgt ls k with _ | z | z | q <;> rfl
theorem ev_iadd {a b : Int} : ev X y (.iadd :: is) ls (.inl b :: .inl a :: st) Sh M = ev X y is ls (vI (w32 (a + b)) :: st) Sh M := by rw [ev_stp rfl]; rfl
theorem ev_isub {a b : Int} : ev X y (.isub :: is) ls (.inl b :: .inl a :: st) Sh M = ev X y is ls (vI (w32 (a - b)) :: st) Sh M := by rw [ev_stp rfl]; rfl
theorem ev_imul {a b : Int} : ev X y (.imul :: is) ls (.inl b :: .inl a :: st) Sh M = ev X y is ls (vI (w32 (a * b)) :: st) Sh M := by rw [ev_stp rfl]; rfl
theorem ev_iand {a b : Int} : ev X y (.iand :: is) ls (.inl b :: .inl a :: st) Sh M = ev X y is ls (vI (i_and a b) :: st) Sh M := by rw [ev_stp rfl]; rfl
theorem ev_ior {a b : Int} : ev X y (.ior :: is) ls (.inl b :: .inl a :: st) Sh M = ev X y is ls (vI (i_or a b) :: st) Sh M := by rw [ev_stp rfl]; rfl
theorem ev_ishl {a b : Int} : ev X y (.ishl :: is) ls (.inl b :: .inl a :: st) Sh M = ev X y is ls (vI (i_shl a b) :: st) Sh M := by rw [ev_stp rfl]; rfl
theorem ev_ishr {a b : Int} : ev X y (.ishr :: is) ls (.inl b :: .inl a :: st) Sh M = ev X y is ls (vI (i_shr a b) :: st) Sh M := by rw [ev_stp rfl]; rfl
theorem ev_idiv {a b : Int} (hb : b ≠ 0) : ev X y (.idiv :: is) ls (.inl b :: .inl a :: st) Sh M = ev X y is ls (vI (i_div a b) :: st) Sh M := by rw [ev_stp rfl]; simp only [stp]; rw [if_neg hb]
theorem ev_irem {a b : Int} (hb : b ≠ 0) : ev X y (.irem :: is) ls (.inl b :: .inl a :: st) Sh M = ev X y is ls (vI (i_rem a b) :: st) Sh M := by rw [ev_stp rfl]; simp only [stp]; rw [if_neg hb]
theorem ev_ineg {a : Int} : ev X y (.ineg :: is) ls (.inl a :: st) Sh M = ev X y is ls (vI (w32 (-a)) :: st) Sh M := by rw [ev_stp rfl]; rfl
theorem ev_ladd {a b : Int} : ev X y (.ladd :: is) ls (.inr (.inl b) :: .inr (.inl a) :: st) Sh M = ev X y is ls (vL (w64 (a + b)) :: st) Sh M := by rw [ev_stp rfl]; rfl
theorem ev_lsub {a b : Int} : ev X y (.lsub :: is) ls (.inr (.inl b) :: .inr (.inl a) :: st) Sh M = ev X y is ls (vL (w64 (a - b)) :: st) Sh M := by rw [ev_stp rfl]; rfl
theorem ev_lmul {a b : Int} : ev X y (.lmul :: is) ls (.inr (.inl b) :: .inr (.inl a) :: st) Sh M = ev X y is ls (vL (w64 (a * b)) :: st) Sh M := by rw [ev_stp rfl]; rfl
theorem ev_land {a b : Int} : ev X y (.land :: is) ls (.inr (.inl b) :: .inr (.inl a) :: st) Sh M = ev X y is ls (vL (l_and a b) :: st) Sh M := by rw [ev_stp rfl]; rfl
theorem ev_lor {a b : Int} : ev X y (.lor :: is) ls (.inr (.inl b) :: .inr (.inl a) :: st) Sh M = ev X y is ls (vL (l_or a b) :: st) Sh M := by rw [ev_stp rfl]; rfl
theorem ev_ldiv {a b : Int} (hb : b ≠ 0) : ev X y (.ldiv :: is) ls (.inr (.inl b) :: .inr (.inl a) :: st) Sh M = ev X y is ls (vL (l_div a b) :: st) Sh M := by rw [ev_stp rfl]; simp only [stp]; rw [if_neg hb]
theorem ev_lrem {a b : Int} (hb : b ≠ 0) : ev X y (.lrem :: is) ls (.inr (.inl b) :: .inr (.inl a) :: st) Sh M = ev X y is ls (vL (l_rem a b) :: st) Sh M := by rw [ev_stp rfl]; simp only [stp]; rw [if_neg hb]
theorem ev_lshl {a b : Int} : ev X y (.lshl :: is) ls (.inl b :: .inr (.inl a) :: st) Sh M = ev X y is ls (vL (l_shl a b) :: st) Sh M := by rw [ev_stp rfl]; rfl
theorem ev_i2l {a : Int} : ev X y (.i2l :: is) ls (.inl a :: st) Sh M = ev X y is ls (vL a :: st) Sh M := by rw [ev_stp rfl]; rfl
theorem ev_l2i {a : Int} : ev X y (.l2i :: is) ls (.inr (.inl a) :: st) Sh M = ev X y is ls (vI (l_i a) :: st) Sh M := by rw [ev_stp rfl]; rfl
theorem ev_i2b {a : Int} : ev X y (.i2b :: is) ls (.inl a :: st) Sh M = ev X y is ls (vI (i_b a) :: st) Sh M := by rw [ev_stp rfl]; rfl
theorem ev_i2s {a : Int} : ev X y (.i2s :: is) ls (.inl a :: st) Sh M = ev X y is ls (vI (i_s a) :: st) Sh M := by rw [ev_stp rfl]; rfl
theorem ev_lcmp {a b : Int} : ev X y (.lcmp :: is) ls (.inr (.inl b) :: .inr (.inl a) :: st) Sh M = ev X y is ls (vI (if a < b then -1 else if a = b then 0 else 1) :: st) Sh M := by rw [ev_stp rfl]; rfl
theorem ev_dupI {a : Int} : ev X y (.dup :: is) ls (.inl a :: st) Sh M = ev X y is ls (.inl a :: .inl a :: st) Sh M := by rw [ev_stp rfl]; rfl
theorem ev_dupR {q : Option Nat ⊕ Nat} : ev X y (.dup :: is) ls (.inr (.inr q) :: st) Sh M = ev X y is ls (.inr (.inr q) :: .inr (.inr q) :: st) Sh M := by rw [ev_stp rfl]; rfl
theorem ev_dup2 {j : Int} {q : Option Nat ⊕ Nat} : ev X y (.dup2 :: is) ls (.inl j :: .inr (.inr q) :: st) Sh M = ev X y is ls (.inl j :: .inr (.inr q) :: .inl j :: .inr (.inr q) :: st) Sh M := by rw [ev_stp rfl]; rfl
theorem ev_popI {a : Int} : ev X y (.pop :: is) ls (.inl a :: st) Sh M = ev X y is ls (st) Sh M := by rw [ev_stp rfl]; rfl
theorem ev_popR {q : Option Nat ⊕ Nat} : ev X y (.pop :: is) ls (.inr (.inr q) :: st) Sh M = ev X y is ls (st) Sh M := by rw [ev_stp rfl]; rfl
theorem ev_alen {a : Nat} (h : 100 ≤ knd Sh a ∧ knd Sh a < 106) : ev X y (.arraylength :: is) ls (.inr (.inr (.inl (some a))) :: st) Sh M = ev X y is ls (vI (len Sh a) :: st) Sh M := by rw [ev_stp rfl]; simp only [stp]; rw [if_pos h]
theorem ev_xlen : ev X y (.arraylength :: is) ls (.inr (.inr (.inr 1000)) :: st) Sh M = ev X y is ls (vI (X (-1)) :: st) Sh M := by rw [ev_stp rfl]; rfl
theorem ev_xald {j : Int} (h0 : 0 ≤ j) (h1 : j < X (-1)) : ev X y (.iaload :: is) ls (.inl j :: .inr (.inr (.inr 1000)) :: st) Sh M = ev X y is ls (vI (X j) :: st) Sh M := by rw [ev_stp rfl]; simp only [stp]; rw [if_pos ⟨h0, h1⟩]
theorem ev_iald {j : Int} {a : Nat} (hk : knd Sh a = 100) (h0 : 0 ≤ j) (h1 : j < len Sh a) : ev X y (.iaload :: is) ls (.inl j :: .inr (.inr (.inl (some a))) :: st) Sh M = ev X y is ls (vI (M a j) :: st) Sh M := by rw [ev_stp rfl]; simp only [stp]; rw [if_pos ⟨hk, h0, h1⟩]
theorem ev_lald {j : Int} {a : Nat} (hk : knd Sh a = 101) (h0 : 0 ≤ j) (h1 : j < len Sh a) : ev X y (.laload :: is) ls (.inl j :: .inr (.inr (.inl (some a))) :: st) Sh M = ev X y is ls (vL (M a j) :: st) Sh M := by rw [ev_stp rfl]; simp only [stp]; rw [if_pos ⟨hk, h0, h1⟩]
theorem ev_bald {j : Int} {a : Nat} (hk : knd Sh a = 102) (h0 : 0 ≤ j) (h1 : j < len Sh a) : ev X y (.baload :: is) ls (.inl j :: .inr (.inr (.inl (some a))) :: st) Sh M = ev X y is ls (vI (M a j) :: st) Sh M := by rw [ev_stp rfl]; simp only [stp]; rw [if_pos ⟨Or.inl hk, h0, h1⟩]
theorem ev_zald {j : Int} {a : Nat} (hk : knd Sh a = 103) (h0 : 0 ≤ j) (h1 : j < len Sh a) : ev X y (.baload :: is) ls (.inl j :: .inr (.inr (.inl (some a))) :: st) Sh M = ev X y is ls (vI (M a j) :: st) Sh M := by rw [ev_stp rfl]; simp only [stp]; rw [if_pos ⟨Or.inr hk, h0, h1⟩]
theorem ev_aald {j : Int} {a : Nat} (hk : knd Sh a = 104 ∨ knd Sh a = 105) (h0 : 0 ≤ j) (h1 : j < len Sh a) : ev X y (.aaload :: is) ls (.inl j :: .inr (.inr (.inl (some a))) :: st) Sh M = ev X y is ls (vR (rfs Sh a j.toNat) :: st) Sh M := by rw [ev_stp rfl]; simp only [stp]; rw [if_pos ⟨hk, h0, h1⟩]
theorem ev_iast {j z : Int} {a : Nat} (hk : knd Sh a = 100) (h0 : 0 ≤ j) (h1 : j < len Sh a) : ev X y (.iastore :: is) ls (.inl z :: .inl j :: .inr (.inr (.inl (some a))) :: st) Sh M = ev X y is ls (st) Sh (up M a j z) := by rw [ev_stp rfl]; simp only [stp]; rw [if_pos ⟨hk, h0, h1⟩]
theorem ev_last {j z : Int} {a : Nat} (hk : knd Sh a = 101) (h0 : 0 ≤ j) (h1 : j < len Sh a) : ev X y (.lastore :: is) ls (.inr (.inl z) :: .inl j :: .inr (.inr (.inl (some a))) :: st) Sh M = ev X y is ls (st) Sh (up M a j z) := by rw [ev_stp rfl]; simp only [stp]; rw [if_pos ⟨hk, h0, h1⟩]
theorem ev_bast {j z : Int} {a : Nat} (hk : knd Sh a = 102) (hz0 : -128 ≤ z) (hz1 : z < 128) (h0 : 0 ≤ j) (h1 : j < len Sh a) : ev X y (.bastore :: is) ls (.inl z :: .inl j :: .inr (.inr (.inl (some a))) :: st) Sh M = ev X y is ls (st) Sh (up M a j z) := by rw [ev_stp rfl]; simp only [stp]; rw [if_pos ⟨Or.inl ⟨hk, hz0, hz1⟩, h0, h1⟩]
theorem ev_zast {j z : Int} {a : Nat} (hk : knd Sh a = 103) (hz0 : 0 ≤ z) (hz1 : z < 2) (h0 : 0 ≤ j) (h1 : j < len Sh a) : ev X y (.bastore :: is) ls (.inl z :: .inl j :: .inr (.inr (.inl (some a))) :: st) Sh M = ev X y is ls (st) Sh (up M a j z) := by rw [ev_stp rfl]; simp only [stp]; rw [if_pos ⟨Or.inr ⟨hk, hz0, hz1⟩, h0, h1⟩]
theorem ev_aast {j : Int} {a r : Nat} (hk : knd Sh a = 104 ∧ knd Sh r = 10 ∨ knd Sh a = 105 ∧ knd Sh r = 11) (h0 : 0 ≤ j) (h1 : j < len Sh a) : ev X y (.aastore :: is) ls (.inr (.inr (.inl (some r))) :: .inl j :: .inr (.inr (.inl (some a))) :: st) Sh M = ev X y is ls (st) (shset Sh a j.toNat (some r)) M := by rw [ev_stp rfl]; simp only [stp]; rw [if_pos ⟨hk, h0, h1⟩]
theorem ev_gfI {a n : Nat} (hk : knd Sh a = n / 64) : ev X y (.getfield n :: is) ls (.inr (.inr (.inl (some a))) :: st) Sh M = ev X y is ls (vI (M a ((n % 64 : Nat) : Int)) :: st) Sh M := by rw [ev_stp rfl]; simp only [stp]; rw [if_pos hk]
theorem ev_gfL {a n : Nat} (hk : knd Sh a = n / 64) : ev X y (.getstatic n :: is) ls (.inr (.inr (.inl (some a))) :: st) Sh M = ev X y is ls (vL (M a ((n % 64 : Nat) : Int)) :: st) Sh M := by rw [ev_stp rfl]; simp only [stp]; rw [if_pos hk]
theorem ev_gfR {a n : Nat} (hk : knd Sh a = n / 64) : ev X y (.checkcast n :: is) ls (.inr (.inr (.inl (some a))) :: st) Sh M = ev X y is ls (vR (rfs Sh a (n % 64)) :: st) Sh M := by rw [ev_stp rfl]; simp only [stp]; rw [if_pos hk]
theorem ev_pfI {z : Int} {a n : Nat} (hk : knd Sh a = n / 64) : ev X y (.putfield n :: is) ls (.inl z :: .inr (.inr (.inl (some a))) :: st) Sh M = ev X y is ls (st) Sh (up M a ((n % 64 : Nat) : Int) z) := by rw [ev_stp rfl]; simp only [stp]; rw [if_pos hk]
theorem ev_pfZ {z : Int} {a n : Nat} (hk : knd Sh a = n / 64) (hz0 : 0 ≤ z) (hz1 : z < 2) : ev X y (.instanceof n :: is) ls (.inl z :: .inr (.inr (.inl (some a))) :: st) Sh M = ev X y is ls (st) Sh (up M a ((n % 64 : Nat) : Int) z) := by rw [ev_stp rfl]; simp only [stp]; rw [if_pos ⟨hk, hz0, hz1⟩]
theorem ev_pfL {z : Int} {a n : Nat} (hk : knd Sh a = n / 64) : ev X y (.putstatic n :: is) ls (.inr (.inl z) :: .inr (.inr (.inl (some a))) :: st) Sh M = ev X y is ls (st) Sh (up M a ((n % 64 : Nat) : Int) z) := by rw [ev_stp rfl]; simp only [stp]; rw [if_pos hk]
theorem ev_pfR {q : Option Nat} {d : Nat} {a n : Nat} (hk : knd Sh a = n / 64) : ev X y (.multianewarray n d :: is) ls (.inr (.inr (.inl q)) :: .inr (.inr (.inl (some a))) :: st) Sh M = ev X y is ls (st) (shset Sh a (n % 64) q) M := by rw [ev_stp rfl]; simp only [stp]; rw [if_pos hk]
theorem ev_new {c : Nat} : ev X y (.new c :: is) ls (st) Sh M = ev X y is ls (vR (some Sh.length) :: st) (Sh ++ [(c, cN c, List.replicate (cN c) none)]) (clr M Sh.length) := by rw [ev_stp rfl]; rfl
theorem ev_newa {t : ArrayType} {n : Int} (h : 0 ≤ n ∧ n ≤ 1000000) : ev X y (.newarray t :: is) ls (.inl n :: st) Sh M = ev X y is ls (vR (some Sh.length) :: st) (Sh ++ [(kOf t, n.toNat, [])]) (clr M Sh.length) := by rw [ev_stp rfl]; simp only [stp]; rw [if_pos h]
theorem ev_newq {k : Nat} {n : Int} (h : 0 ≤ n ∧ n ≤ 1000) : ev X y (.anewarray k :: is) ls (.inl n :: st) Sh M = ev X y is ls (vR (some Sh.length) :: st) (Sh ++ [(k, n.toNat, List.replicate n.toNat none)]) (clr M Sh.length) := by rw [ev_stp rfl]; simp only [stp]; rw [if_pos h]
theorem ev_copy {n dp sp : Int} {d s : Nat} (h1 : knd Sh s = knd Sh d) (h2 : knd Sh d = 100 ∨ knd Sh d = 101) (h3 : 0 ≤ sp) (h4 : 0 ≤ dp) (h5 : 0 ≤ n) (h6 : sp + n ≤ len Sh s) (h7 : dp + n ≤ len Sh d) : ev X y (.invokedynamic 0 :: is) ls [.inl n, .inl dp, .inr (.inr (.inl (some d))), .inl sp, .inr (.inr (.inl (some s)))] Sh M = ev X y is ls [] Sh (cpy M s sp d dp n) := by rw [ev_stp rfl]; simp only [stp]; rw [if_pos ⟨h1, h2, h3, h4, h5, h6, h7⟩]
theorem ev_slen {k : Nat} (hk : k < 21) (h4 : st.length ≤ 4) : ev X y (.invokedynamic 1 :: is) ls (.inr (.inr (.inr k)) :: st) Sh M = ev X y is ls (vI (slen k) :: st) Sh M := by rw [ev_stp rfl]; simp only [stp]; rw [if_pos ⟨hk, h4⟩]
theorem ev_schr {k : Nat} {j : Int} (hk : k < 21) (h0 : 0 ≤ j) (h1 : j < slen k) (h4 : st.length ≤ 4) : ev X y (.invokedynamic 2 :: is) ls (.inl j :: .inr (.inr (.inr k)) :: st) Sh M = ev X y is ls (vI (schr k j) :: st) Sh M := by rw [ev_stp rfl]; simp only [stp]; rw [if_pos ⟨hk, h0, h1, h4⟩]
theorem ev_obj {a : Nat} (h4 : st.length ≤ 4) : ev X y (.invokedynamic 3 :: is) ls (.inr (.inr (.inl (some a))) :: st) Sh M = ev X y is ls (st) Sh M := by rw [ev_stp rfl]; simp only [stp]; rw [if_pos h4]
theorem ev_mmin {a b : Int} (h4 : st.length ≤ 4) : ev X y (.invokedynamic 4 :: is) ls (.inl b :: .inl a :: st) Sh M = ev X y is ls (vI (if b < a then b else a) :: st) Sh M := by rw [ev_stp rfl]; simp only [stp]; rw [if_pos h4]
theorem ev_mabs {a : Int} (h4 : st.length ≤ 4) : ev X y (.invokedynamic 5 :: is) ls (.inl a :: st) Sh M = ev X y is ls (vI (if 0 ≤ a then a else w32 (0 - a)) :: st) Sh M := by rw [ev_stp rfl]; simp only [stp]; rw [if_pos h4]
theorem ev_mmax {a b : Int} (h4 : st.length ≤ 4) : ev X y (.invokedynamic 6 :: is) ls (.inl b :: .inl a :: st) Sh M = ev X y is ls (vI (if a < b then b else a) :: st) Sh M := by rw [ev_stp rfl]; simp only [stp]; rw [if_pos h4]
theorem ev_goto {b : Int} : ev X y (.goto b :: is) ls (st) Sh M = ev X y (jmp y b) ls (st) Sh M := by rw [ev_bod]; rfl
theorem ev_jsr {b : Int} : ev X y (.jsr b :: is) ls (st) Sh M = ev X y (jmp y b) ls (st) Sh M := by rw [ev_bod]; rfl
theorem ev_icmp_eq {u v b : Int} : ev X y (.if_icmp .eq b :: is) ls (.inl v :: .inl u :: st) Sh M = if u = v then ev X y (jmp y b) ls (st) Sh M else ev X y is ls (st) Sh M := by rw [ev_bod]; simp only [nxt, bod, cmpI, decide_eq_true_eq]; split <;> rfl
theorem ev_if_eq {u b : Int} : ev X y (.ifCond .eq b :: is) ls (.inl u :: st) Sh M = if u = 0 then ev X y (jmp y b) ls (st) Sh M else ev X y is ls (st) Sh M := by rw [ev_bod]; simp only [nxt, bod, cmpI, decide_eq_true_eq]; split <;> rfl
theorem ev_icmp_ne {u v b : Int} : ev X y (.if_icmp .ne b :: is) ls (.inl v :: .inl u :: st) Sh M = if u ≠ v then ev X y (jmp y b) ls (st) Sh M else ev X y is ls (st) Sh M := by rw [ev_bod]; simp only [nxt, bod, cmpI, decide_eq_true_eq]; split <;> rfl
theorem ev_if_ne {u b : Int} : ev X y (.ifCond .ne b :: is) ls (.inl u :: st) Sh M = if u ≠ 0 then ev X y (jmp y b) ls (st) Sh M else ev X y is ls (st) Sh M := by rw [ev_bod]; simp only [nxt, bod, cmpI, decide_eq_true_eq]; split <;> rfl
theorem ev_icmp_lt {u v b : Int} : ev X y (.if_icmp .lt b :: is) ls (.inl v :: .inl u :: st) Sh M = if u < v then ev X y (jmp y b) ls (st) Sh M else ev X y is ls (st) Sh M := by rw [ev_bod]; simp only [nxt, bod, cmpI, decide_eq_true_eq]; split <;> rfl
theorem ev_if_lt {u b : Int} : ev X y (.ifCond .lt b :: is) ls (.inl u :: st) Sh M = if u < 0 then ev X y (jmp y b) ls (st) Sh M else ev X y is ls (st) Sh M := by rw [ev_bod]; simp only [nxt, bod, cmpI, decide_eq_true_eq]; split <;> rfl
theorem ev_icmp_ge {u v b : Int} : ev X y (.if_icmp .ge b :: is) ls (.inl v :: .inl u :: st) Sh M = if v ≤ u then ev X y (jmp y b) ls (st) Sh M else ev X y is ls (st) Sh M := by rw [ev_bod]; simp only [nxt, bod, cmpI, decide_eq_true_eq]; split <;> rfl
theorem ev_if_ge {u b : Int} : ev X y (.ifCond .ge b :: is) ls (.inl u :: st) Sh M = if 0 ≤ u then ev X y (jmp y b) ls (st) Sh M else ev X y is ls (st) Sh M := by rw [ev_bod]; simp only [nxt, bod, cmpI, decide_eq_true_eq]; split <;> rfl
theorem ev_icmp_gt {u v b : Int} : ev X y (.if_icmp .gt b :: is) ls (.inl v :: .inl u :: st) Sh M = if v < u then ev X y (jmp y b) ls (st) Sh M else ev X y is ls (st) Sh M := by rw [ev_bod]; simp only [nxt, bod, cmpI, decide_eq_true_eq]; split <;> rfl
theorem ev_if_gt {u b : Int} : ev X y (.ifCond .gt b :: is) ls (.inl u :: st) Sh M = if 0 < u then ev X y (jmp y b) ls (st) Sh M else ev X y is ls (st) Sh M := by rw [ev_bod]; simp only [nxt, bod, cmpI, decide_eq_true_eq]; split <;> rfl
theorem ev_icmp_le {u v b : Int} : ev X y (.if_icmp .le b :: is) ls (.inl v :: .inl u :: st) Sh M = if u ≤ v then ev X y (jmp y b) ls (st) Sh M else ev X y is ls (st) Sh M := by rw [ev_bod]; simp only [nxt, bod, cmpI, decide_eq_true_eq]; split <;> rfl
theorem ev_if_le {u b : Int} : ev X y (.ifCond .le b :: is) ls (.inl u :: st) Sh M = if u ≤ 0 then ev X y (jmp y b) ls (st) Sh M else ev X y is ls (st) Sh M := by rw [ev_bod]; simp only [nxt, bod, cmpI, decide_eq_true_eq]; split <;> rfl
theorem ev_ifnull0 {b : Int} : ev X y (.ifnull b :: is) ls (.inr (.inr (.inl none)) :: st) Sh M = ev X y (jmp y b) ls (st) Sh M := by rw [ev_bod]; rfl
theorem ev_ifnull1 {b : Int} {a : Nat} : ev X y (.ifnull b :: is) ls (.inr (.inr (.inl (some a))) :: st) Sh M = ev X y is ls (st) Sh M := by rw [ev_bod]; rfl
theorem ev_ifnn0 {b : Int} : ev X y (.ifnonnull b :: is) ls (.inr (.inr (.inl none)) :: st) Sh M = ev X y is ls (st) Sh M := by rw [ev_bod]; rfl
theorem ev_ifnn1 {b : Int} {a : Nat} : ev X y (.ifnonnull b :: is) ls (.inr (.inr (.inl (some a))) :: st) Sh M = ev X y (jmp y b) ls (st) Sh M := by rw [ev_bod]; rfl
theorem ev_tsw {d lo hi u : Int} {offs : Array Int} : ev X y (.tableswitch d lo hi offs :: is) ls (.inl u :: st) Sh M = ev X y (jmp y (tsw d lo hi offs u)) ls st Sh M := by rw [ev_bod]; rfl
theorem ev_lsw {d u : Int} {ps : Array (Int × Int)} : ev X y (.lookupswitch d ps :: is) ls (.inl u :: st) Sh M = ev X y (jmp y (lsw d ps.toList u)) ls st Sh M := by rw [ev_bod]; rfl
theorem ev_iret {z : Int} : ev X y (.ireturn :: is) ls [.inl z] Sh M = some (some (vI z), Sh, M) := by rw [ev_bod]; rfl
theorem ev_zret {z : Int} (h0 : 0 ≤ z) (h1 : z < 2) : ev X y (.freturn :: is) ls [.inl z] Sh M = some (some (vI z), Sh, M) := by rw [ev_bod]; simp only [nxt]; rw [if_pos ⟨h0, h1⟩]; rfl
theorem ev_lret {z : Int} : ev X y (.lreturn :: is) ls [.inr (.inl z)] Sh M = some (some (vL z), Sh, M) := by rw [ev_bod]; rfl
theorem ev_aret {q : Option Nat} : ev X y (.areturn :: is) ls [.inr (.inr (.inl q))] Sh M = some (some (vR q), Sh, M) := by rw [ev_bod]; rfl
theorem ev_ret : ev X y (.return_ :: is) ls [] Sh M = some (none, Sh, M) := by rw [ev_bod]; rfl
theorem ev_call0 {k : Nat} : ev X y (.invokeinterface k 0 :: is) ls (st) Sh M = if st.length ≤ 4 then (match evc X k [] Sh M with | some r => ev X y is ls (r.1.toList ++ st) r.2.1 r.2.2 | none => none) else none := by
  rw [ev_call (Nat.zero_le _)]
  rfl
theorem ev_call1 {k : Nat} {a1 : PV} : ev X y (.invokeinterface k 1 :: is) ls (a1 :: st) Sh M = if st.length ≤ 4 then (match evc X k [a1] Sh M with | some r => ev X y is ls (r.1.toList ++ st) r.2.1 r.2.2 | none => none) else none := by
  rw [ev_call (by simp only [List.length_cons]; omega)]
  rfl
theorem ev_call2 {k : Nat} {a1 a2 : PV} : ev X y (.invokeinterface k 2 :: is) ls (a2 :: a1 :: st) Sh M = if st.length ≤ 4 then (match evc X k [a1, a2] Sh M with | some r => ev X y is ls (r.1.toList ++ st) r.2.1 r.2.2 | none => none) else none := by
  rw [ev_call (by simp only [List.length_cons]; omega)]
  rfl
theorem ev_call3 {k : Nat} {a1 a2 a3 : PV} : ev X y (.invokeinterface k 3 :: is) ls (a3 :: a2 :: a1 :: st) Sh M = if st.length ≤ 4 then (match evc X k [a1, a2, a3] Sh M with | some r => ev X y is ls (r.1.toList ++ st) r.2.1 r.2.2 | none => none) else none := by
  rw [ev_call (by simp only [List.length_cons]; omega)]
  rfl
theorem ev_call4 {k : Nat} {a1 a2 a3 a4 : PV} : ev X y (.invokeinterface k 4 :: is) ls (a4 :: a3 :: a2 :: a1 :: st) Sh M = if st.length ≤ 4 then (match evc X k [a1, a2, a3, a4] Sh M with | some r => ev X y is ls (r.1.toList ++ st) r.2.1 r.2.2 | none => none) else none := by
  rw [ev_call (by simp only [List.length_cons]; omega)]
  rfl
theorem ev_call5 {k : Nat} {a1 a2 a3 a4 a5 : PV} : ev X y (.invokeinterface k 5 :: is) ls (a5 :: a4 :: a3 :: a2 :: a1 :: st) Sh M = if st.length ≤ 4 then (match evc X k [a1, a2, a3, a4, a5] Sh M with | some r => ev X y is ls (r.1.toList ++ st) r.2.1 r.2.2 | none => none) else none := by
  rw [ev_call (by simp only [List.length_cons]; omega)]
  rfl
theorem ev_call6 {k : Nat} {a1 a2 a3 a4 a5 a6 : PV} : ev X y (.invokeinterface k 6 :: is) ls (a6 :: a5 :: a4 :: a3 :: a2 :: a1 :: st) Sh M = if st.length ≤ 4 then (match evc X k [a1, a2, a3, a4, a5, a6] Sh M with | some r => ev X y is ls (r.1.toList ++ st) r.2.1 r.2.2 | none => none) else none := by
  rw [ev_call (by simp only [List.length_cons]; omega)]
  rfl
end EVQ
