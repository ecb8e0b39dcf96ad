/-! THE START: a pure run of the law that answers 1 is the claim. -/
def R_law : String := "FewEndsLaw"
def lw_P (b : Addr) (xs : List Int32) (args : Array Value) (s : State) : Prop := args = #[.ref b] ∧ s.IntsAt b xs ∧ xs.length ≤ 3072 ∧ (Jvm.Cond.and given_1 narrow_1).before args s = true
def lw_Q (_ : Array Value) (s : State) (o : Outcome) (t : State) : Prop := o = .returned (some (.int 1)) ∧ Framed s o t [] 600000 7302250
def lw_Z (below : List Frame) (a : Array Value) (s : State) : State → Prop := fun t => ∃ o, t.status = .running ∧ Ended t below o ∧ lw_Q a s o t
/-- the law's own end, with 1 on the stack, nothing written that was there before, its room as the claim has it -/
theorem lw_ret {p : Program} {l : Launch} {e : Env} {s : State} {m : MethodId} {below : List Frame} {meth : Method} {c : Code} {b : Nat} (hx : p.tables.exec = Jvm.exec) (hb : c.code = code) (hr : meth.sig.returnType = ret) (hlocks : meth.locks = false) {pc : Nat} {H : Heap} {ls : Array Slot} (hdg : decode code pc = .ok (.ireturn, 1)) : W p l e room_1 s m #[Value.ref b] below meth c H [] 600000 7302250 (lw_Z below #[Value.ref b] s) (F0 m pc ls [.int 1]) := by
  intro T hT X
  obtain ⟨fs, hret, hrun, hended, hW, hframe⟩ := X.leave (v := some (.int 1)) (hlocks := hlocks) (fun h => by rw [hr] at h; cases h)
  have hmeth' : T.vm.method? m = some meth := X.method'
  refine ⟨T.setFrames fs, ?_, .returned (some (.int 1)), hrun, hended, rfl, ⟨_, rfl⟩, hW, hframe⟩
  jvm_step X.here [X.here.top, hx, hb, hdg, hmeth', hr, ret, narrow_b1]
  (try refine ⟨rfl, ?_⟩); (try refine ⟨rfl, ?_⟩)
  first | (intro acts; rw [hret _ acts rfl rfl rfl]) | rw [hret _ _ rfl rfl rfl]
  exact Steps.refl _
/-- what holds at the law's entry: the machine, the code, the tables' words (any of lw_tbl by 'hts w (by decide +kernel)'), the script of L ints xs at the cell b, what the Statement gives of the start (any of its parts by flat_of_before) -/
def lw_At (p : Program) (s : State) (m : MethodId) (meth : Method) (c : Code) (b L : Nat) (xs : Nat → Int32) : Prop :=
  p.tables.exec = Jvm.exec ∧ c.code = code ∧ meth.sig.returnType = ret ∧ c.maxLocals = 4 ∧ s.vm.findClass R_law = some m.cls ∧ (∀ w ∈ lw_tbl, w.before #[Value.ref b] s = true) ∧ va_X b L xs s s.heap ∧ b < s.heap.size ∧ meth.locks = false ∧ (Jvm.Cond.and given_1 narrow_1).before #[Value.ref b] s = true
def strW (i : Nat) : List Cond :=
  let tm : Term := .string (strl.getD i ("", 0, "")).1 (strl.getD i ("", 0, "")).2.1
  let fv : Term := .field tm "java/lang/String" "value" "[B"
  [Cond.exactly tm "java/lang/String", Cond.eq (.field tm "java/lang/String" "coder" "B") (.int 0), Cond.arrayOf fv .byte, Cond.eq (.length fv) (.int (Int32.ofNat (slenl i)))] ++ (List.range (slenl i)).map fun j => Cond.eq (.elem fv (.int (Int32.ofNat j))) (.int (Int32.ofInt ((strb.getD i []).getD j 0)))
def flatG : List Cond := flatC (Jvm.Cond.and given_1 narrow_1)
theorem strW_a : (List.range' 0 7).all (fun i => (strW i).all (fun w => decide (w ∈ flatG))) = true := by decide +kernel
theorem strW_b : (List.range' 7 7).all (fun i => (strW i).all (fun w => decide (w ∈ flatG))) = true := by decide +kernel
theorem strW_c : (List.range' 14 5).all (fun i => (strW i).all (fun w => decide (w ∈ flatG))) = true := by decide +kernel
theorem strW_d : (List.range' 19 1).all (fun i => (strW i).all (fun w => decide (w ∈ flatG))) = true := by decide +kernel
theorem strW_e : (List.range' 20 1).all (fun i => (strW i).all (fun w => decide (w ∈ flatG))) = true := by decide +kernel
theorem strW_in {i : Nat} (hi : i < 21) : ∀ w ∈ strW i, w ∈ flatG := fun w hw => by
  have key : ∀ {lo n : Nat}, (List.range' lo n).all (fun i => (strW i).all (fun w => decide (w ∈ flatG))) = true → lo ≤ i → i < lo + n → w ∈ flatG := fun e h1 h2 => by
    have h3 := List.all_eq_true.mp (List.all_eq_true.mp e i (List.mem_range'_1.mpr ⟨h1, h2⟩)) w hw
    exact of_decide_eq_true h3
  rcases (by omega : i < 7 ∨ (7 ≤ i ∧ i < 14) ∨ (14 ≤ i ∧ i < 19) ∨ i = 19 ∨ i = 20) with h | h | h | h | h
  · exact key strW_a (by omega) (by omega)
  · exact key strW_b (by omega) (by omega)
  · exact key strW_c (by omega) (by omega)
  · exact key strW_d (by omega) (by omega)
  · exact key strW_e (by omega) (by omega)
theorem slen_ok : (List.range 21).all (fun i => decide (slenl i < 2 ^ 31)) = true := by decide +kernel
theorem strR_ok : (List.range 21).all (fun i => decide (Cond.stringRef (strl.getD i ("", 0, "")).1 (strl.getD i ("", 0, "")).2.1 (strl.getD i ("", 0, "")).2.2 ∈ lw_tbl)) = true := by decide +kernel
theorem inst_G : (List.range 13).all (fun ci => decide (Cond.instantiable (cid ci) (cN ci) ∈ lw_tbl)) = true := by decide +kernel
theorem arrW_ok : Cond.arrayClass .int ∈ lw_tbl ∧ Cond.arrayClass .long ∈ lw_tbl ∧ Cond.arrayClass .byte ∈ lw_tbl ∧ Cond.arrayClass .boolean ∈ lw_tbl ∧ Cond.arrayOver (.object "FewEnds$Tray") ∈ lw_tbl ∧ Cond.arrayOver (.object "FewEnds$Mark") ∈ lw_tbl := by decide +kernel
theorem staW_ok : Cond.laysStatic "java/lang/String" "COMPACT_STRINGS" "Z" ∈ lw_tbl ∧ Cond.initialized "java/lang/String" ∈ lw_tbl ∧ Cond.laysStatic "jdk/internal/util/Preconditions" "SIOOBE_FORMATTER" "Ljava/util/function/BiFunction;" ∈ lw_tbl ∧ Cond.initialized "jdk/internal/util/Preconditions" ∈ lw_tbl := by decide +kernel
theorem staW_n : Cond.eq (.static "java/lang/String" "COMPACT_STRINGS" "Z") (.int 1) ∈ flatG ∧ Cond.isRef (.static "jdk/internal/util/Preconditions" "SIOOBE_FORMATTER" "Ljava/util/function/BiFunction;") ∈ flatG := by decide +kernel
section START
variable {args : Array Value} {s : State}
theorem arr_prim {ty : FieldType} (h : (Cond.arrayClass ty).before args s = true) (hty : ∀ C, ty ≠ .object C) : ∃ c, ArrOfT s c ty ∧ s.vm.findClass ("[" ++ ty.toString) = some c := by
  obtain ⟨c, k, comp, h1, h2, h3⟩ := Cond.arrayClass_spec h
  exact ⟨c, fun n z => ⟨(fun k h => by cases h), k, h2, comp, h3⟩, h1⟩
theorem arr_obj {C : String} (h : (Cond.arrayOver (.object C)).before args s = true) : ∃ c, ArrOfT s c (.object C) ∧ va_RA s c (.object C) := by
  obtain ⟨comp, c, k, h1, h2, h3, h4, h5⟩ := Cond.arrayOver_spec h
  exact ⟨c, fun n z => ⟨(fun k h => by cases h), k, h3, comp, h4⟩, k, comp, h3, h4, h1, h5⟩
/-- the classes, the arrays' classes -/
theorem K_start (hts : ∀ w ∈ lw_tbl, w.before args s = true) : ∃ (D : va_G) (cA : Nat → ClassId), va_K D kcl (tyL cA) s := by
  have h0 : ∀ ci : Nat, ∃ q : ClassId × (Nat → Nat), ci < 13 → u_Kn s (cid ci) (kT ci) (cN ci) q.1 q.2 := by
    intro ci
    by_cases hi : ci < 13
    · have h2 := List.all_eq_true.mp inst_G ci (List.mem_range.mpr hi)
      obtain ⟨cC, iS, h⟩ := u_known (ws := lwG) (fun w hw => hts w (List.mem_filter.mp hw).1) (kcl_words hi) (hts _ (of_decide_eq_true h2))
      exact ⟨(cC, iS), fun _ => h⟩
    · exact ⟨(0, fun _ => 0), fun h => absurd h hi⟩
  obtain ⟨g, hg⟩ := Classical.axiomOfChoice h0
  obtain ⟨a0, a1, a2, a3, a4, a5⟩ := arrW_ok
  obtain ⟨c0, p0, q0⟩ := arr_prim (hts _ a0) (fun C h => by cases h)
  obtain ⟨c1, p1, q1⟩ := arr_prim (hts _ a1) (fun C h => by cases h)
  obtain ⟨c2, p2, q2⟩ := arr_prim (hts _ a2) (fun C h => by cases h)
  obtain ⟨c3, p3, q3⟩ := arr_prim (hts _ a3) (fun C h => by cases h)
  obtain ⟨c4, p4, q4⟩ := arr_obj (hts _ a4)
  obtain ⟨c5, p5, q5⟩ := arr_obj (hts _ a5)
  refine ⟨(fun ci => (g ci).1, fun ci => (g ci).2), fun k => [c0, c1, c2, c3, c4, c5].getD k 0, fun c q hq => ?_, fun k q hk => ?_⟩
  · have hc : c < 13 := by
      have := (List.getElem?_eq_some_iff.mp hq).1
      rwa [kcl_len] at this
    have h3 := kcl_at hc
    rw [h3] at hq
    cases hq
    exact hg c hc
  · match k, hk with
    | 0, hk => cases hk; exact ⟨p0, q0⟩
    | 1, hk => cases hk; exact ⟨p1, q1⟩
    | 2, hk => cases hk; exact ⟨p2, q2⟩
    | 3, hk => cases hk; exact ⟨p3, q3⟩
    | 4, hk => cases hk; exact ⟨p4, q4⟩
    | 5, hk => cases hk; exact ⟨p5, q5⟩
/-- the constants -/
theorem PS_start {A : Nat → Prop} (hts : ∀ w ∈ lw_tbl, w.before args s = true) (hn : ∀ w ∈ flatG, w.before args s = true) (hA : ∀ a : Nat, a < s.heap.size → ¬ A a) (b : Nat) : ∃ adK adV : Nat → Nat, adK 1000 = b ∧ PSs adK adV A s s.heap ∧ PRs adK s := by
  have h0 : ∀ i : Nat, ∃ q : Nat × Nat, i < 21 → vk_R (strl.getD i ("", 0, "")).1 (strl.getD i ("", 0, "")).2.1 (strl.getD i ("", 0, "")).2.2 q.1 s ∧ va_O "java/lang/String" q.1 A s s.heap ∧ va_OF "java/lang/String" "coder" "B" (.int 0) q.1 A s s.heap ∧ va_OF "java/lang/String" "value" "[B" (.ref q.2) q.1 A s s.heap ∧ va_T .byte q.2 (slenl i) (fun j => .int (Int32.ofInt ((strb.getD i []).getD j 0))) A s s.heap := by
    intro i
    by_cases hi : i < 21
    · have hw := strW_in hi
      have hN : slenl i < 2 ^ 31 := of_decide_eq_true (List.all_eq_true.mp slen_ok i (List.mem_range.mpr hi))
      have hR : Cond.stringRef (strl.getD i ("", 0, "")).1 (strl.getD i ("", 0, "")).2.1 (strl.getD i ("", 0, "")).2.2 ∈ lw_tbl := of_decide_eq_true (List.all_eq_true.mp strR_ok i (List.mem_range.mpr hi))
      unfold strW at hw
      have w0 := hn _ (hw _ (List.mem_append_left _ List.mem_cons_self))
      have w1 := hn _ (hw _ (List.mem_append_left _ (List.mem_cons_of_mem _ List.mem_cons_self)))
      have w2 := hn _ (hw _ (List.mem_append_left _ (List.mem_cons_of_mem _ (List.mem_cons_of_mem _ List.mem_cons_self))))
      have w3 := hn _ (hw _ (List.mem_append_left _ (List.mem_cons_of_mem _ (List.mem_cons_of_mem _ (List.mem_cons_of_mem _ List.mem_cons_self)))))
      have w4 : ∀ j : Nat, j < slenl i → _ := fun j hj => hn _ (hw _ (List.mem_append_right _ (List.mem_map.mpr ⟨j, List.mem_range.mpr hj, rfl⟩)))
      obtain ⟨a, c, cA, kA, q1, q2, q3, q4, q5, q6, -⟩ := Cond.exactly_spec (args := args) (first := s) (o := none) (s := s) (idx := []) (cls := "java/lang/String") w0
      obtain ⟨t, ht, hT⟩ := va_Tof (f := fun j => .int (Int32.ofInt ((strb.getD i []).getD j 0))) (A := A) hN w2 (va_eqt w3) (fun j hj => va_eqt (w4 j hj)) hA
      exact ⟨(a, t), fun _ => ⟨vk_R.of (hts _ hR) q1, ⟨cA, q3, q5, by rw [q6]; exact q2, hA a (Array.getElem?_eq_some_iff.mp q3).1⟩, vk_OFof q1 (va_eqt w1) hA, vk_OFof q1 ht hA, hT⟩⟩
    · exact ⟨(0, 0), fun h => absurd h hi⟩
  obtain ⟨ad, had⟩ := Classical.axiomOfChoice h0
  obtain ⟨-, -, -, -, a4, a5⟩ := arrW_ok
  obtain ⟨b0, b1, b2, b3⟩ := staW_ok
  refine ⟨fun i => if i = 1000 then b else (ad i).1, fun i => (ad i).2, if_pos rfl, ⟨fun i hi => ?_, va_Zof (hts _ b0) (hts _ b1) (va_eqt (hn _ staW_n.1)) hA, va_Zqof (hts _ b2) (hts _ b3) (hn _ staW_n.2) hA⟩, ⟨fun i hi => ?_, va_AO.of (hts _ a4), va_AO.of (hts _ a5)⟩⟩
  · have e : (if i = 1000 then b else (ad i).1) = (ad i).1 := if_neg (by omega)
    dsimp only
    rw [e]
    exact (had i hi).2
  · have e : (if i = 1000 then b else (ad i).1) = (ad i).1 := if_neg (by omega)
    dsimp only
    rw [e]
    exact (had i hi).1
end START
def ls0 : PLS := [some (vS 1000), none, none, none]
def M0 : Mem := fun _ _ => 0
theorem law_facts : (mT 365).2.1 = code ∧ (mT 365).2.2.1 = 4 ∧ (mT 365).2.2.2 = ret ∧ (mT 365).1.name = "law" ∧ cid (mcl 365) = R_law ∧ mdep 365 = 11 := by
  rw [mT_law]
  exact ⟨rfl, rfl, rfl, rfl, by decide +kernel, by decide +kernel⟩
set_option maxHeartbeats 2000000 in
theorem start_of_run {p : Program} {e : Env} {s : State} {m : MethodId} {below : List Frame} {meth : Method} {c : Code} (l : Launch) {b L : Nat} {xs : Nat → Int32} (hL : L ≤ 3072) (C0 : lw_At p s m meth c b L xs) {X : Int → Int} (hX1 : X (-1) = (L : Int)) (hX2 : ∀ j : Nat, j < L → X j = (xs j).toInt) {n : Nat} {Sh' : List SE} {M' : Mem} (hr : run X n 365 (jmp 365 0) ls0 [] [] M0 = some (some (vI 1), Sh', M')) (hc : Sh'.length ≤ 600000) (hs : ssz Sh' ≤ 7302250) : W p l e room_1 s m #[Value.ref b] below meth c s.heap [] 0 0 (lw_Z below #[Value.ref b] s) (entryFrame m ([Value.ref b] : List Value).toArray 4) := by
  obtain ⟨hx, hb, hret, hml, hown, hts, hXs, hbl, hlk, hgv⟩ := C0
  obtain ⟨f1, f2, f3, f4, f5, f6⟩ := law_facts
  have hn : ∀ w ∈ flatG, w.before #[Value.ref b] s = true := flat_of_before _ hgv
  have hA : ∀ a : Nat, a < s.heap.size → ¬ s.heap.size ≤ a := fun a h1 h2 => by omega
  obtain ⟨D, cA, hK⟩ := K_start hts
  obtain ⟨adK, adV, hk0, hPS, hPR⟩ := PS_start (A := fun q => s.heap.size ≤ q) hts hn hA b
  have hSC : True → ∃ (L : Nat) (xs : Nat → Int32), va_X (adK 1000) L xs s s.heap ∧ adK 1000 < s.heap.size ∧ ¬ s.heap.size ≤ adK 1000 ∧ L ≤ 1000000 ∧ X (-1) = (L : Int) ∧ ∀ j : Nat, j < L → X j = (xs j).toInt := fun _ => by
    rw [hk0]
    exact ⟨L, xs, hXs, hbl, hA b hbl, by omega, hX1, hX2⟩
  have C : Cx X True 365 p room_1 s m #[Value.ref b] meth c D cA adK adV (fun q => s.heap.size ≤ q) :=
    ⟨hx, by rw [f1]; exact hb, by rw [f3]; exact hret, by rw [f2]; exact hml, by rw [f5]; exact hown, fun w hw => hts w (List.mem_filter.mp hw).1, hlk, fun h => absurd (f4.symm.trans h) (by decide), hK, fun q hq => hq, hPS, hPR, hSC, by rw [f6]; decide, by rw [f6]; decide, mcl_law.1⟩
  obtain ⟨-, hch, htg⟩ := jmp_ok (y := 365) (b := 0) (by omega) mcl_law.2
  have hS := snd_all X n True 365 (jmp 365 0) ls0 [] [] M0 (some (vI 1)) Sh' M' 0 hr (by omega) ⟨mcl_law.1, fun _ => ⟨⟨L, by omega, hX1⟩, fun j h0 h1 => by
    rw [hX1] at h1
    have h2 := hX2 j.toNat (by omega)
    rw [Int.toNat_of_nonneg h0] at h2
    rw [h2]
    exact n_rng _⟩⟩ hch htg (fun j v hv => ?_) (fun v hv => by cases hv) (fun a e h => by cases h) (fun a e h => by cases h) (by rw [f2]; rfl)
  · have z1 : Sh'.length - ([] : List SE).length = Sh'.length := Nat.sub_zero _
    have z2 : ssz Sh' - ssz [] ≤ 7302250 := Nat.le_trans (Nat.sub_le _ _) hs
    have hG := hS.2 p l e room_1 s m #[Value.ref b] below meth c D cA adK adV (fun q => s.heap.size ≤ q) (fun _ => 0) (fun _ => 0) 0 0 0 _ _ C (Nat.zero_le _) (fun _ _ => rfl) (Nat.zero_add _) (Nat.zero_add _) (by rw [z1]; exact hc) z2
    have hl := lv_entry ([Value.ref b]) (n := 4) (by show 1 ≤ 4; decide)
    have hP0 : va_P D kcl (wd cA (fun _ => 0) [] M0) s.heap := fun k q h => absurd (show (none : Option (Nat × va_E)) = some q from h) (fun h => by cases h)
    have hD0 : va_D (fun q => s.heap.size ≤ q) (wd cA (fun _ => 0) [] M0) := ⟨fun i j p q h => absurd (show (none : Option (Nat × va_E)) = some p from h) (fun h => by cases h), fun k q h => absurd (show (none : Option (Nat × va_E)) = some q from h) (fun h => by cases h)⟩
    have hW := hG s.heap [] _ hP0 hD0 va_S.rf (lvh_mono (by rw [f2]; exact hl) fun q hq => ?_)
    · rw [lg_entry_eq]
      intro T hT X0
      obtain ⟨t, h1, o, h2, h3, ⟨⟨ad', hag, ho, hP, hK', hD'⟩, hF⟩, L2, ⟨h5, h6, h7⟩, h8⟩ := hW T hT X0
      refine ⟨t, h1, o, h2, h3, ho, h5, h6, ?_⟩
      have h9 : s.sameButNew { t with vm := s.vm } ([] ++ L2) _ _ := h7
      exact (h9.drop_fresh h8).mono (by rw [z1]; exact hc) z2
    · obtain ⟨v, h1, h2⟩ := LV_mem.mp hq
      obtain ⟨q1, q2⟩ := q
      match q1, h1 with
      | 0, h1 =>
        cases h1
        simp only at h2
        subst h2
        show (0, Value.ref (adK 1000)) ∈ _
        rw [hk0]
        exact List.mem_cons_self
      | 1, h1 => cases h1
      | 2, h1 => cases h1
      | 3, h1 => cases h1
      | (k + 4), h1 => cases h1
  · match j, hv with
    | 0, hv => cases hv; exact Or.inr ⟨rfl, trivial⟩
    | 1, hv => cases hv
    | 2, hv => cases hv
    | 3, hv => cases hv
    | (k + 4), hv => cases hv
