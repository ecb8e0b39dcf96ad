/-! The JDK's methods of text over the constants: length(), charAt(). -/
theorem wG {w : Jvm.Cond} (h : w ∈ lw_tbl) (g : goodWord w = true) : w ∈ lwG := lwG_of h g
theorem gG {ws : List Jvm.Cond} (h : ∀ w ∈ ws, w ∈ lwG) : GoodIn lwG ws := fun w hw => lwG_good w (h w hw)
/-- the words of a method of ours or the JDK's: its code, and all that are good -/
def wsY (y : Nat) : List Jvm.Cond := mC (mT y) :: lwG
theorem wsY_in {y : Nat} (h : y < 365) : ∀ w ∈ wsY y, w ∈ lwG := fun w hw => by
  rcases List.mem_cons.mp hw with rfl | h2
  · exact mT_inG h
  · exact h2
abbrev yLen : MethodName := ⟨"java/lang/String", "length", "()I"⟩
abbrev yCod : MethodName := ⟨"java/lang/String", "coder", "()B"⟩
abbrev yChr : MethodName := ⟨"java/lang/String", "charAt", "(I)C"⟩
abbrev yLat : MethodName := ⟨"java/lang/String", "isLatin1", "()Z"⟩
abbrev yL1c : MethodName := ⟨"java/lang/StringLatin1", "charAt", "([BI)C"⟩
abbrev yChk : MethodName := ⟨"java/lang/String", "checkIndex", "(II)V"⟩
abbrev yPre : MethodName := ⟨"jdk/internal/util/Preconditions", "checkIndex", "(IILjava/util/function/BiFunction;)I"⟩
theorem wLen : mC (mT 47) = .code yLen prog_16_method_54_code 1 (some .int) := rfl
theorem wCod : mC (mT 48) = .code yCod prog_16_method_152_code 1 (some .byte) := rfl
theorem wChr : mC (mT 49) = .code yChr prog_16_method_56_code 2 (some .char) := rfl
theorem wLat : mC (mT 50) = .code yLat prog_16_method_154_code 1 (some .boolean) := rfl
theorem wL1c : mC (mT 51) = .code yL1c prog_17_method_2_code 2 (some .char) := rfl
theorem wChk : mC (mT 52) = .code yChk prog_16_method_155_code 2 none := rfl
theorem wPre : mC (mT 53) = .code yPre prog_21_method_11_code 3 (some .int) := rfl
abbrev A0 : Nat → Prop := fun _ => False
def sRoom (f lo : Nat) : Room := { frames := f, cells := 0, slots := 0, locals := lo }
section STRG
variable {adK adV : Nat → Nat}
theorem aK (h : Jvm.Cond) (g : h ∈ lw_tbl ∧ goodWord h = true) : h ∈ lwG := lwG_of g.1 g.2
theorem fl38 : Cond.fieldLink "java/lang/String" 38 "java/lang/String" "COMPACT_STRINGS" "Z" ∈ lwG := lwG_of (by decide +kernel) rfl
theorem fl15 : Cond.fieldLink "java/lang/String" 15 "java/lang/String" "coder" "B" ∈ lwG := lwG_of (by decide +kernel) rfl
theorem fl9 : Cond.fieldLink "java/lang/String" 9 "java/lang/String" "value" "[B" ∈ lwG := lwG_of (by decide +kernel) rfl
theorem fl1053 : Cond.fieldLink "java/lang/String" 1053 "jdk/internal/util/Preconditions" "SIOOBE_FORMATTER" "Ljava/util/function/BiFunction;" ∈ lwG := lwG_of (by decide +kernel) rfl
theorem ml335 : Cond.methodLink "java/lang/String" 335 yCod ∈ lwG := lwG_of (by decide +kernel) rfl
theorem ml492 : Cond.methodLink "java/lang/String" 492 yLat ∈ lwG := lwG_of (by decide +kernel) rfl
theorem ml495 : Cond.methodLink "java/lang/String" 495 yL1c ∈ lwG := lwG_of (by decide +kernel) rfl
theorem mlL9 : Cond.methodLink "java/lang/StringLatin1" 9 yChk ∈ lwG := lwG_of (by decide +kernel) rfl
theorem ml1059 : Cond.methodLink "java/lang/String" 1059 yPre ∈ lwG := lwG_of (by decide +kernel) rfl
theorem imCod : Cond.instanceMethod yCod ∈ lwG := lwG_of (by decide +kernel) rfl
theorem imLat : Cond.instanceMethod yLat ∈ lwG := lwG_of (by decide +kernel) rfl
theorem imLen : Cond.instanceMethod yLen ∈ lwG := lwG_of (by decide +kernel) rfl
theorem imChr : Cond.instanceMethod yChr ∈ lwG := lwG_of (by decide +kernel) rfl
theorem seCod : Cond.selects "java/lang/String" yCod yCod ∈ lwG := lwG_of (by decide +kernel) rfl
theorem seLat : Cond.selects "java/lang/String" yLat yLat ∈ lwG := lwG_of (by decide +kernel) rfl
theorem seLen : Cond.selects "java/lang/String" yLen yLen ∈ lwG := lwG_of (by decide +kernel) rfl
theorem seChr : Cond.selects "java/lang/String" yChr yChr ∈ lwG := lwG_of (by decide +kernel) rfl
theorem stL1c : Cond.static yL1c ∈ lwG := lwG_of (by decide +kernel) rfl
theorem stChk : Cond.static yChk ∈ lwG := lwG_of (by decide +kernel) rfl
theorem stPre : Cond.static yPre ∈ lwG := lwG_of (by decide +kernel) rfl
theorem inStr : Cond.initialized "java/lang/String" ∈ lwG := lwG_of (by decide +kernel) rfl
theorem inL1 : Cond.initialized "java/lang/StringLatin1" ∈ lwG := lwG_of (by decide +kernel) rfl
theorem inPre : Cond.initialized "jdk/internal/util/Preconditions" ∈ lwG := lwG_of (by decide +kernel) rfl
theorem wsV_in {own C : String} {idx k : Nat} {y : MethodName} (hk : k < 365) (h1 : Cond.methodLink own idx y ∈ lwG) (h2 : Cond.instanceMethod y ∈ lwG) (h3 : Cond.selects C y y ∈ lwG) (h4 : Cond.initialized C ∈ lwG) : GoodIn lwG (wsV own idx C y (wsY k)) := gG fun w hw => by
  unfold wsV at hw
  simp only [List.cons_append, List.nil_append, List.mem_cons] at hw
  rcases hw with rfl | rfl | rfl | rfl | hw
  · exact h1
  · exact h2
  · exact h3
  · exact h4
  · exact wsY_in hk w hw
theorem wsS_in {own : String} {idx k : Nat} {y : MethodName} (hk : k < 365) (h1 : Cond.methodLink own idx y ∈ lwG) (h2 : Cond.static y ∈ lwG) (h4 : Cond.initialized y.cls ∈ lwG) : GoodIn lwG (va_wsS own idx y (wsY k)) := gG fun w hw => by
  unfold va_wsS at hw
  simp only [List.cons_append, List.nil_append, List.mem_cons] at hw
  rcases hw with rfl | rfl | rfl | hw
  · exact h1
  · exact h2
  · exact h4
  · exact wsY_in hk w hw
set_option maxHeartbeats 4000000 in
/-- coder() of a constant: 0 -/
theorem c_cod (l : Launch) {k : Nat} (hk : k < 21) : Met l yCod (wsY 48) (sRoom 0 0) (va_Pc [.ref (adK k)] (fun U => PSs adK adV A0 U U.heap)) (vp_Si (fun r => r = 0)) 0 0 (fun _ => False) := by
  refine Met.ofW (cc := prog_16_method_152_code) (maxL := 1) (ret := some .byte) (by decide) (by unfold wsY; rw [wCod]) ?_
  intro p e s m args below meth c s₁ B hml hv
  obtain ⟨rfl, hPS⟩ := hv
  have hx := B.exec
  have hb := B.bytes
  have hr := B.returns
  have hts := atoms_spec (ws := wsY 48) B.pre
  have hown : s.vm.findClass "java/lang/String" = some m.cls := findClass_of_methodNamed B.named
  have hlocks := B.notSynchronized
  have hG : ∀ w ∈ lwG, w.before #[.ref (adK k)] s = true := fun w hw => hts w (List.mem_cons_of_mem _ hw)
  have hS : va_S A0 s.heap s.heap [] := va_S.rf
  have hl := lv_entry ([.ref (adK k)]) (n := 1) (Nat.le_of_ble_eq_true rfl)
  show W _ _ _ _ _ _ _ _ _ _ _ _ _ _ _ (entryFrame m ([Value.ref (adK k)] : List Value).toArray 1)
  rw [lg_entry_eq]
  generalize (lg_sl ([.ref (adK k)]) ++ List.replicate (1 - (lg_sl ([.ref (adK k)])).length) Slot.unset).toArray = ls at hl ⊢
  have hl : lv_has ls 1 [(0, .ref (adK k))] := hl
  refine va_gets hx hb hPS.2.1 hS hown (hG _ fl38) (fun x h => h) (by decide +kernel : decode prog_16_method_152_code 0 = .ok (.getstatic 38, 3)) ?_
  refine lv_if_eq (tgt := 13) hx hb (by decide +kernel : decode prog_16_method_152_code 3 = .ok (.ifCond .eq 10, 3)) (by decide) (fun h => absurd h (by decide)) (fun _ => ?_)
  refine lv_aload_n hx hb (by decide +kernel : decode prog_16_method_152_code 6 = .ok (.aload_n 0, 1)) rfl (lv_at hl 0 rfl) ?_
  refine vk_getf hx hb (hPS.1 k hk).2.1 hS hown (hG _ fl15) (fun x h => h) (by decide +kernel : decode prog_16_method_152_code 7 = .ok (.getfield 15, 3)) ?_
  refine lv_goto (tgt := 14) hx hb (by decide +kernel : decode prog_16_method_152_code 10 = .ok (.goto 4, 3)) (by decide) ?_
  exact W.zret (v := 0) (ty := .byte) hx hb hr rfl (fun t ht _ => ⟨0, rfl, rfl, ht⟩) (fun q hq => by cases hq) (by decide +kernel : decode prog_16_method_152_code 14 = .ok (.ireturn, 1))
set_option maxHeartbeats 4000000 in
/-- isLatin1() of a constant: true -/
theorem c_lat (l : Launch) {k : Nat} (hk : k < 21) : Met l yLat (wsY 50) (sRoom 0 0) (va_Pc [.ref (adK k)] (fun U => PSs adK adV A0 U U.heap)) (vp_Si (fun r => r = 1)) 0 0 (fun _ => False) := by
  refine Met.ofW (cc := prog_16_method_154_code) (maxL := 1) (ret := some .boolean) (by decide) (by unfold wsY; rw [wLat]) ?_
  intro p e s m args below meth c s₁ B hml hv
  obtain ⟨rfl, hPS⟩ := hv
  have hx := B.exec
  have hb := B.bytes
  have hr := B.returns
  have hts := atoms_spec (ws := wsY 50) B.pre
  have hown : s.vm.findClass "java/lang/String" = some m.cls := findClass_of_methodNamed B.named
  have hlocks := B.notSynchronized
  have hG : ∀ w ∈ lwG, w.before #[.ref (adK k)] s = true := fun w hw => hts w (List.mem_cons_of_mem _ hw)
  have hS : va_S A0 s.heap s.heap [] := va_S.rf
  have hl := lv_entry ([.ref (adK k)]) (n := 1) (Nat.le_of_ble_eq_true rfl)
  show W _ _ _ _ _ _ _ _ _ _ _ _ _ _ _ (entryFrame m ([Value.ref (adK k)] : List Value).toArray 1)
  rw [lg_entry_eq]
  generalize (lg_sl ([.ref (adK k)]) ++ List.replicate (1 - (lg_sl ([.ref (adK k)])).length) Slot.unset).toArray = ls at hl ⊢
  have hl : lv_has ls 1 [(0, .ref (adK k))] := hl
  refine va_gets hx hb hPS.2.1 hS hown (hG _ fl38) (fun x h => h) (by decide +kernel : decode prog_16_method_154_code 0 = .ok (.getstatic 38, 3)) ?_
  refine lv_if_eq (tgt := 17) hx hb (by decide +kernel : decode prog_16_method_154_code 3 = .ok (.ifCond .eq 14, 3)) (by decide) (fun h => absurd h (by decide)) (fun _ => ?_)
  refine lv_aload_n hx hb (by decide +kernel : decode prog_16_method_154_code 6 = .ok (.aload_n 0, 1)) rfl (lv_at hl 0 rfl) ?_
  refine vk_getf hx hb (hPS.1 k hk).2.1 hS hown (hG _ fl15) (fun x h => h) (by decide +kernel : decode prog_16_method_154_code 7 = .ok (.getfield 15, 3)) ?_
  refine lv_if_ne (tgt := 17) hx hb (by decide +kernel : decode prog_16_method_154_code 10 = .ok (.ifCond .ne 7, 3)) (by decide) (fun h => absurd rfl h) (fun _ => ?_)
  refine lv_iconst (v := 1) hx hb (by decide +kernel : decode prog_16_method_154_code 13 = .ok (.iconst 1, 1)) (by decide) ?_
  refine lv_goto (tgt := 18) hx hb (by decide +kernel : decode prog_16_method_154_code 14 = .ok (.goto 4, 3)) (by decide) ?_
  exact W.zret (v := 1) (ty := .boolean) hx hb hr rfl (fun t ht _ => ⟨1, rfl, rfl, ht⟩) (fun q hq => by cases hq) (by decide +kernel : decode prog_16_method_154_code 18 = .ok (.ireturn, 1))
theorem PS_blind : ∀ {av : List Value} {B : State → Prop}, (∀ U : State, ∀ g mk, B U → B (U.calling g mk av.toArray)) → FrameBlind (va_Pc av B) := fun {av B} h a U g mk q => ⟨q.1, by rw [q.1]; exact h U g mk q.2⟩
set_option maxHeartbeats 4000000 in
/-- length() of a constant -/
theorem c_len (l : Launch) {k : Nat} (hk : k < 21) : Met l yLen (wsY 47) (sRoom 1 30) (va_Pc [.ref (adK k)] (fun U => PSs adK adV A0 U U.heap)) (vp_Si (fun r => r = nI (slenl k))) 0 0 (fun _ => False) := by
  refine Met.ofW (cc := prog_16_method_54_code) (maxL := 1) (ret := some .int) (by decide) (by unfold wsY; rw [wLen]) ?_
  intro p e s m args below meth c s₁ B hml hv
  obtain ⟨rfl, hPS⟩ := hv
  have hx := B.exec
  have hb := B.bytes
  have hr := B.returns
  have hts := atoms_spec (ws := wsY 47) B.pre
  have hown : s.vm.findClass "java/lang/String" = some m.cls := findClass_of_methodNamed B.named
  have hlocks := B.notSynchronized
  have hG : ∀ w ∈ lwG, w.before #[.ref (adK k)] s = true := fun w hw => hts w (List.mem_cons_of_mem _ hw)
  have hS : va_S A0 s.heap s.heap [] := va_S.rf
  have hl := lv_entry ([.ref (adK k)]) (n := 1) (Nat.le_of_ble_eq_true rfl)
  show W _ _ _ _ _ _ _ _ _ _ _ _ _ _ _ (entryFrame m ([Value.ref (adK k)] : List Value).toArray 1)
  rw [lg_entry_eq]
  generalize (lg_sl ([.ref (adK k)]) ++ List.replicate (1 - (lg_sl ([.ref (adK k)])).length) Slot.unset).toArray = ls at hl ⊢
  have hl : lv_has ls 1 [(0, .ref (adK k))] := hl
  refine lv_aload_n hx hb (by decide +kernel : decode prog_16_method_54_code 0 = .ok (.aload_n 0, 1)) rfl (lv_at hl 0 rfl) ?_
  refine vk_getf hx hb (hPS.1 k hk).2.2.1 hS hown (hG _ fl9) (fun x h => h) (by decide +kernel : decode prog_16_method_54_code 1 = .ok (.getfield 9, 3)) ?_
  refine va_tlen hx hb (hPS.1 k hk).2.2.2 hS (v := nI (slenl k)) rfl (by decide +kernel : decode prog_16_method_54_code 4 = .ok (.arraylength, 1)) ?_
  refine lv_aload_n hx hb (by decide +kernel : decode prog_16_method_54_code 5 = .ok (.aload_n 0, 1)) rfl (lv_at hl 0 rfl) ?_
  refine vp_callSi (W.runV (As := []) (b := adK k) (rest := [.int (nI (slenl k))]) ⟨hx, hb, hml, hown, hG⟩ (c_cod (adV := adV) l hk) (cwV 0 hG (wsV_in (C := "java/lang/String") (k := 48) (by decide) ml335 imCod seCod inStr) (by unfold wsY; rw [wCod]) rfl rfl (by decide +kernel) ⟨Nat.le_of_ble_eq_true rfl, Nat.le_of_ble_eq_true rfl⟩) ⟨PS_blind fun U g mk q => PSs.moved (Vm.Alike.refl U.vm) q, va_Orecv (hPS.1 k hk).1 hS, fun U hU hW => ⟨rfl, by show PSs adK adV A0 U U.heap; rw [hU]; exact hPS.moved hW.alike⟩⟩ rfl rfl hl.1 rfl (lv_room (Nat.le_of_ble_eq_true rfl)) (by decide +kernel : decode prog_16_method_54_code 6 = .ok (.invokevirtual 335, 3)) ⟨Nat.le_of_ble_eq_true rfl, Nat.le_of_ble_eq_true rfl⟩) (fun r hr0 => ?_)
  subst hr0
  refine lv_ishr hx hb (by decide +kernel : decode prog_16_method_54_code 9 = .ok (.ishr, 1)) ?_
  have e1 : nI (slenl k) >>> ((0 : Int32) &&& 31) = nI (slenl k) := sb_shr0 _
  rw [e1]
  exact W.iret (v := nI (slenl k)) hx hb hr (fun t ht _ => ⟨_, rfl, rfl, ht⟩) (fun q hq => by cases hq) (by decide +kernel : decode prog_16_method_54_code 10 = .ok (.ireturn, 1))
set_option maxHeartbeats 4000000 in
/-- Preconditions.checkIndex in range -/
theorem c_pre (l : Launch) {j n : Nat} (hj : j < n) (hn : n < 2 ^ 31) {v : Value} (hv3 : v = .null ∨ ∃ a, v = .ref a) : Met l yPre (wsY 53) (sRoom 0 0) (va_Pc [.int (nI j), .int (nI n), v] (fun _ => True)) (vp_Si (fun r => r = nI j)) 0 0 (fun _ => False) := by
  refine Met.ofW (cc := prog_21_method_11_code) (maxL := 3) (ret := some .int) (by decide) (by unfold wsY; rw [wPre]) ?_
  intro p e s m args below meth c s₁ B hml hv
  obtain ⟨rfl, -⟩ := hv
  have hx := B.exec
  have hb := B.bytes
  have hr := B.returns
  have hlocks := B.notSynchronized
  have hvc : v.category = 1 := by rcases hv3 with rfl | ⟨a, rfl⟩ <;> rfl
  have hlen : (lg_sl ([.int (nI j), .int (nI n), v])).length = 3 := by rcases hv3 with rfl | ⟨a, rfl⟩ <;> rfl
  have hl := lv_entry ([.int (nI j), .int (nI n), v]) (n := 3) (by rw [hlen]; exact Nat.le_refl _)
  show W _ _ _ _ _ _ _ _ _ _ _ _ _ _ _ (entryFrame m ([.int (nI j), .int (nI n), v] : List Value).toArray 3)
  rw [lg_entry_eq]
  generalize (lg_sl ([.int (nI j), .int (nI n), v]) ++ List.replicate (3 - (lg_sl ([.int (nI j), .int (nI n), v])).length) Slot.unset).toArray = ls at hl ⊢
  have hl : lv_has ls 3 [(0, .int (nI j)), (1, .int (nI n)), (2, v)] := hl
  refine lv_iload_n hx hb (by decide +kernel : decode prog_21_method_11_code 0 = .ok (.iload_n 0, 1)) rfl (lv_at hl 0 rfl) ?_
  refine lv_if_lt (tgt := 9) hx hb (by decide +kernel : decode prog_21_method_11_code 1 = .ok (.ifCond .lt 8, 3)) (by decide) (fun h => absurd h (nI_pos (by omega))) (fun _ => ?_)
  refine lv_iload_n hx hb (by decide +kernel : decode prog_21_method_11_code 4 = .ok (.iload_n 0, 1)) rfl (lv_at hl 0 rfl) ?_
  refine lv_iload_n hx hb (by decide +kernel : decode prog_21_method_11_code 5 = .ok (.iload_n 1, 1)) rfl (lv_at hl 1 rfl) ?_
  refine lv_icmp_lt (tgt := 16) hx hb (by decide +kernel : decode prog_21_method_11_code 6 = .ok (.if_icmp .lt 10, 3)) (by decide) (fun _ => ?_) (fun h => absurd (nI_lt hj hn) h)
  refine lv_iload_n hx hb (by decide +kernel : decode prog_21_method_11_code 16 = .ok (.iload_n 0, 1)) rfl (lv_at hl 0 rfl) ?_
  exact W.iret (v := nI j) hx hb hr (fun t ht _ => ⟨_, rfl, rfl, ht⟩) (fun q hq => by cases hq) (by decide +kernel : decode prog_21_method_11_code 17 = .ok (.ireturn, 1))
set_option maxHeartbeats 4000000 in
/-- String.checkIndex in range -/
theorem c_chk (l : Launch) {j n : Nat} (hj : j < n) (hn : n < 2 ^ 31) : Met l yChk (wsY 52) (sRoom 1 30) (va_Pc [.int (nI j), .int (nI n)] (fun U => PSs adK adV A0 U U.heap)) (va_Sv (fun _ => True)) 0 0 (fun _ => False) := by
  refine Met.ofW (cc := prog_16_method_155_code) (maxL := 2) (ret := none) (by decide) (by unfold wsY; rw [wChk]) ?_
  intro p e s m args below meth c s₁ B hml hv
  obtain ⟨rfl, hPS⟩ := hv
  have hx := B.exec
  have hb := B.bytes
  have hr := B.returns
  have hts := atoms_spec (ws := wsY 52) B.pre
  have hown : s.vm.findClass "java/lang/String" = some m.cls := findClass_of_methodNamed B.named
  have hlocks := B.notSynchronized
  have hG : ∀ w ∈ lwG, w.before #[.int (nI j), .int (nI n)] s = true := fun w hw => hts w (List.mem_cons_of_mem _ hw)
  have hS : va_S A0 s.heap s.heap [] := va_S.rf
  have hl := lv_entry ([.int (nI j), .int (nI n)]) (n := 2) (Nat.le_of_ble_eq_true rfl)
  show W _ _ _ _ _ _ _ _ _ _ _ _ _ _ _ (entryFrame m ([.int (nI j), .int (nI n)] : List Value).toArray 2)
  rw [lg_entry_eq]
  generalize (lg_sl ([.int (nI j), .int (nI n)]) ++ List.replicate (2 - (lg_sl ([.int (nI j), .int (nI n)])).length) Slot.unset).toArray = ls at hl ⊢
  have hl : lv_has ls 2 [(0, .int (nI j)), (1, .int (nI n))] := hl
  refine lv_iload_n hx hb (by decide +kernel : decode prog_16_method_155_code 0 = .ok (.iload_n 0, 1)) rfl (lv_at hl 0 rfl) ?_
  refine lv_iload_n hx hb (by decide +kernel : decode prog_16_method_155_code 1 = .ok (.iload_n 1, 1)) rfl (lv_at hl 1 rfl) ?_
  have go : ∀ v : Value, (v = .null ∨ ∃ a, v = .ref a) → W p l e (headSpec (wsY 52) (sRoom 1 30)).room s m #[.int (nI j), .int (nI n)] below meth c s.heap [] 0 0 (MQ below (va_Sv (fun _ => True)) #[.int (nI j), .int (nI n)] s 0 0 (fun _ => False)) (F0 m 5 ls [v, .int (nI n), .int (nI j)]) := by
    intro v hv3
    have hvc : v.category = 1 := by rcases hv3 with rfl | ⟨a, rfl⟩ <;> rfl
    refine vp_callSi (W.runS (As := [.int (nI j), .int (nI n), v]) (rest := []) ⟨hx, hb, hml, hown, hG⟩ (c_pre l hj hn hv3) (va_cwS 3 hG (wsS_in (k := 53) (by decide) ml1059 stPre inPre) (by unfold wsY; rw [wPre]) rfl rfl (by decide +kernel) ⟨Nat.le_of_ble_eq_true rfl, Nat.le_of_ble_eq_true rfl⟩) ⟨PS_blind fun U g mk q => trivial, fun U hU hW => ⟨rfl, trivial⟩⟩ rfl rfl hl.1 rfl (lv_room (Nat.le_of_ble_eq_true rfl)) (by decide +kernel : decode prog_16_method_155_code 5 = .ok (.invokestatic 1059, 3)) ⟨Nat.le_of_ble_eq_true rfl, Nat.le_of_ble_eq_true rfl⟩) (fun r hr0 => ?_)
    refine lv_pop hx hb (by decide +kernel : decode prog_16_method_155_code 8 = .ok (.pop, 1)) rfl ?_
    exact W.vret hx hb hr (fun t ht _ => ⟨rfl, trivial, ht⟩) (fun q hq => by cases hq) (by decide +kernel : decode prog_16_method_155_code 9 = .ok (.return_, 1))
  rcases hPS.2.2 with hq | ⟨t, hq⟩
  · exact va_gets hx hb hq hS hown (hG _ fl1053) (fun x h => h) (by decide +kernel : decode prog_16_method_155_code 2 = .ok (.getstatic 1053, 3)) (go _ (Or.inl rfl))
  · exact va_gets hx hb hq hS hown (hG _ fl1053) (fun x h => h) (by decide +kernel : decode prog_16_method_155_code 2 = .ok (.getstatic 1053, 3)) (go _ (Or.inr ⟨t, rfl⟩))
set_option maxHeartbeats 4000000 in
/-- StringLatin1.charAt over a constant's bytes -/
theorem c_l1c (l : Launch) {k j : Nat} (hk : k < 21) (hj : j < slenl k) (hn : slenl k < 2 ^ 31) {v : Int32} (hv0 : Int32.ofInt ((strb.getD k []).getD j 0) &&& 255 = v) (hv1 : (v.toUInt32 % 65536).toInt32 = v) (hv2 : narrow .char (.int v) = .int v) : Met l yL1c (wsY 51) (sRoom 2 60) (va_Pc [.ref (adV k), .int (nI j)] (fun U => PSs adK adV A0 U U.heap)) (vp_Si (fun r => r = v)) 0 0 (fun _ => False) := by
  refine Met.ofW (cc := prog_17_method_2_code) (maxL := 2) (ret := some .char) (by decide) (by unfold wsY; rw [wL1c]) ?_
  intro p e s m args below meth c s₁ B hml hv
  obtain ⟨rfl, hPS⟩ := hv
  have hx := B.exec
  have hb := B.bytes
  have hr := B.returns
  have hts := atoms_spec (ws := wsY 51) B.pre
  have hown : s.vm.findClass "java/lang/StringLatin1" = some m.cls := findClass_of_methodNamed B.named
  have hlocks := B.notSynchronized
  have hG : ∀ w ∈ lwG, w.before #[.ref (adV k), .int (nI j)] s = true := fun w hw => hts w (List.mem_cons_of_mem _ hw)
  have hS : va_S A0 s.heap s.heap [] := va_S.rf
  have hl := lv_entry ([.ref (adV k), .int (nI j)]) (n := 2) (Nat.le_of_ble_eq_true rfl)
  show W _ _ _ _ _ _ _ _ _ _ _ _ _ _ _ (entryFrame m ([.ref (adV k), .int (nI j)] : List Value).toArray 2)
  rw [lg_entry_eq]
  generalize (lg_sl ([.ref (adV k), .int (nI j)]) ++ List.replicate (2 - (lg_sl ([.ref (adV k), .int (nI j)])).length) Slot.unset).toArray = ls at hl ⊢
  have hl : lv_has ls 2 [(0, .ref (adV k)), (1, .int (nI j))] := hl
  refine lv_iload_n hx hb (by decide +kernel : decode prog_17_method_2_code 0 = .ok (.iload_n 1, 1)) rfl (lv_at hl 1 rfl) ?_
  refine lv_aload_n hx hb (by decide +kernel : decode prog_17_method_2_code 1 = .ok (.aload_n 0, 1)) rfl (lv_at hl 0 rfl) ?_
  refine va_tlen hx hb (hPS.1 k hk).2.2.2 hS (v := nI (slenl k)) rfl (by decide +kernel : decode prog_17_method_2_code 2 = .ok (.arraylength, 1)) ?_
  refine va_csv (W.runS (As := [.int (nI j), .int (nI (slenl k))]) (rest := []) ⟨hx, hb, hml, hown, hG⟩ (c_chk (adK := adK) (adV := adV) l hj hn) (va_cwS 2 hG (wsS_in (k := 52) (by decide) mlL9 stChk inStr) (by unfold wsY; rw [wChk]) rfl rfl (by decide +kernel) ⟨Nat.le_of_ble_eq_true rfl, Nat.le_of_ble_eq_true rfl⟩) ⟨PS_blind fun U g mk q => PSs.moved (Vm.Alike.refl U.vm) q, fun U hU hW => ⟨rfl, by show PSs adK adV A0 U U.heap; rw [hU]; exact hPS.moved hW.alike⟩⟩ rfl rfl hl.1 rfl (lv_room (Nat.le_of_ble_eq_true rfl)) (by decide +kernel : decode prog_17_method_2_code 3 = .ok (.invokestatic 9, 3)) ⟨Nat.le_of_ble_eq_true rfl, Nat.le_of_ble_eq_true rfl⟩) (fun _ => ?_)
  refine lv_aload_n hx hb (by decide +kernel : decode prog_17_method_2_code 6 = .ok (.aload_n 0, 1)) rfl (lv_at hl 0 rfl) ?_
  refine lv_iload_n hx hb (by decide +kernel : decode prog_17_method_2_code 7 = .ok (.iload_n 1, 1)) rfl (lv_at hl 1 rfl) ?_
  refine va_tb hx hb (hPS.1 k hk).2.2.2 hS (vp_in_nI hj hn) (v := .int (Int32.ofInt ((strb.getD k []).getD j 0))) (by show Value.int _ = _; rw [nI_clamp (by omega)]) (by decide +kernel : decode prog_17_method_2_code 8 = .ok (.baload, 1)) ?_
  refine lv_sipush (v := 255) hx hb (by decide +kernel : decode prog_17_method_2_code 9 = .ok (.sipush 255, 3)) (by decide) ?_
  refine lv_iand hx hb (by decide +kernel : decode prog_17_method_2_code 12 = .ok (.iand, 1)) ?_
  rw [hv0]
  refine lv_i2c hx hb (by decide +kernel : decode prog_17_method_2_code 13 = .ok (.i2c, 1)) hv1 ?_
  exact W.zret (v := v) (ty := .char) hx hb hr hv2 (fun t ht _ => ⟨_, rfl, rfl, ht⟩) (fun q hq => by cases hq) (by decide +kernel : decode prog_17_method_2_code 14 = .ok (.ireturn, 1))
set_option maxHeartbeats 4000000 in
/-- charAt(j) of a constant -/
theorem c_chr (l : Launch) {k j : Nat} (hk : k < 21) (hj : j < slenl k) (hn : slenl k < 2 ^ 31) {v : Int32} (hv0 : Int32.ofInt ((strb.getD k []).getD j 0) &&& 255 = v) (hv1 : (v.toUInt32 % 65536).toInt32 = v) (hv2 : narrow .char (.int v) = .int v) : Met l yChr (wsY 49) (sRoom 3 90) (va_Pc [.ref (adK k), .int (nI j)] (fun U => PSs adK adV A0 U U.heap)) (vp_Si (fun r => r = v)) 0 0 (fun _ => False) := by
  refine Met.ofW (cc := prog_16_method_56_code) (maxL := 2) (ret := some .char) (by decide) (by unfold wsY; rw [wChr]) ?_
  intro p e s m args below meth c s₁ B hml hv
  obtain ⟨rfl, hPS⟩ := hv
  have hx := B.exec
  have hb := B.bytes
  have hr := B.returns
  have hts := atoms_spec (ws := wsY 49) B.pre
  have hown : s.vm.findClass "java/lang/String" = some m.cls := findClass_of_methodNamed B.named
  have hlocks := B.notSynchronized
  have hG : ∀ w ∈ lwG, w.before #[.ref (adK k), .int (nI j)] s = true := fun w hw => hts w (List.mem_cons_of_mem _ hw)
  have hS : va_S A0 s.heap s.heap [] := va_S.rf
  have hl := lv_entry ([.ref (adK k), .int (nI j)]) (n := 2) (Nat.le_of_ble_eq_true rfl)
  show W _ _ _ _ _ _ _ _ _ _ _ _ _ _ _ (entryFrame m ([.ref (adK k), .int (nI j)] : List Value).toArray 2)
  rw [lg_entry_eq]
  generalize (lg_sl ([.ref (adK k), .int (nI j)]) ++ List.replicate (2 - (lg_sl ([.ref (adK k), .int (nI j)])).length) Slot.unset).toArray = ls at hl ⊢
  have hl : lv_has ls 2 [(0, .ref (adK k)), (1, .int (nI j))] := hl
  refine lv_aload_n hx hb (by decide +kernel : decode prog_16_method_56_code 0 = .ok (.aload_n 0, 1)) rfl (lv_at hl 0 rfl) ?_
  refine vp_callSi (W.runV (As := []) (b := adK k) (rest := []) ⟨hx, hb, hml, hown, hG⟩ (c_lat (adV := adV) l hk) (cwV 0 hG (wsV_in (C := "java/lang/String") (k := 50) (by decide) ml492 imLat seLat inStr) (by unfold wsY; rw [wLat]) rfl rfl (by decide +kernel) ⟨Nat.le_of_ble_eq_true rfl, Nat.le_of_ble_eq_true rfl⟩) ⟨PS_blind fun U g mk q => PSs.moved (Vm.Alike.refl U.vm) q, va_Orecv (hPS.1 k hk).1 hS, fun U hU hW => ⟨rfl, by show PSs adK adV A0 U U.heap; rw [hU]; exact hPS.moved hW.alike⟩⟩ rfl rfl hl.1 rfl (lv_room (Nat.le_of_ble_eq_true rfl)) (by decide +kernel : decode prog_16_method_56_code 1 = .ok (.invokevirtual 492, 3)) ⟨Nat.le_of_ble_eq_true rfl, Nat.le_of_ble_eq_true rfl⟩) (fun r hr0 => ?_)
  subst hr0
  refine lv_if_eq (tgt := 16) hx hb (by decide +kernel : decode prog_16_method_56_code 4 = .ok (.ifCond .eq 12, 3)) (by decide) (fun h => absurd h (by decide)) (fun _ => ?_)
  refine lv_aload_n hx hb (by decide +kernel : decode prog_16_method_56_code 7 = .ok (.aload_n 0, 1)) rfl (lv_at hl 0 rfl) ?_
  refine vk_getf hx hb (hPS.1 k hk).2.2.1 hS hown (hG _ fl9) (fun x h => h) (by decide +kernel : decode prog_16_method_56_code 8 = .ok (.getfield 9, 3)) ?_
  refine lv_iload_n hx hb (by decide +kernel : decode prog_16_method_56_code 11 = .ok (.iload_n 1, 1)) rfl (lv_at hl 1 rfl) ?_
  refine vp_callSi (W.runS (As := [.ref (adV k), .int (nI j)]) (rest := []) ⟨hx, hb, hml, hown, hG⟩ (c_l1c (adK := adK) l hk hj hn hv0 hv1 hv2) (va_cwS 2 hG (wsS_in (k := 51) (by decide) ml495 stL1c inL1) (by unfold wsY; rw [wL1c]) rfl rfl (by decide +kernel) ⟨Nat.le_of_ble_eq_true rfl, Nat.le_of_ble_eq_true rfl⟩) ⟨PS_blind fun U g mk q => PSs.moved (Vm.Alike.refl U.vm) q, fun U hU hW => ⟨rfl, by show PSs adK adV A0 U U.heap; rw [hU]; exact hPS.moved hW.alike⟩⟩ rfl rfl hl.1 rfl (lv_room (Nat.le_of_ble_eq_true rfl)) (by decide +kernel : decode prog_16_method_56_code 12 = .ok (.invokestatic 495, 3)) ⟨Nat.le_of_ble_eq_true rfl, Nat.le_of_ble_eq_true rfl⟩) (fun r hr0 => ?_)
  have e9 : r = v := hr0
  rw [e9]
  exact W.zret (v := v) (ty := .char) hx hb hr hv2 (fun t ht _ => ⟨_, rfl, rfl, ht⟩) (fun q hq => by cases hq) (by decide +kernel : decode prog_16_method_56_code 15 = .ok (.ireturn, 1))
end STRG
