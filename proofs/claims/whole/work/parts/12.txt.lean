/-! The intrinsics; and all simple instructions together. -/
section TXTI
variable {X : Int → Int} {SC : Prop} {y : Nat} {p : Program} {l : Launch} {e : Env} {R : Room} {s : State} {m : MethodId} {args : Array Value} {below : List Frame} {meth : Method} {c : Code} {D : va_G} {cA : Nat → ClassId} {adK adV : Nat → Nat} {A : Nat → Prop} {Q : State → Prop}
variable {ad : Nat → Nat} {cells slots pc ln : Nat} {ls : PLS} {st : List PV} {Sh : List SE} {M : Mem} {raw : Instr}
theorem cats_le : ∀ st : List PV, ((st.map (trv ad adK)).map fun v => v.category).sum ≤ 2 * st.length
  | [] => Nat.le_refl _
  | v :: st => by
    have h := cats_le st
    have h2 := lv_cat (trv ad adK v)
    simp only [List.map_cons, List.sum_cons, List.length_cons]
    omega
theorem txt_ok : (List.range 21).all (fun k => decide (slenl k < 100) && (strb.getD k []).all (fun c => decide (0 ≤ c ∧ c < 128) && decide (Int32.ofInt c &&& 255 = Int32.ofInt c) && decide (((Int32.ofInt c).toUInt32 % 65536).toInt32 = Int32.ofInt c) && decide ((Int32.ofInt c).toUInt32.toUInt16.toUInt32.toInt32 = Int32.ofInt c))) = true := by decide +kernel
theorem txt_len {k : Nat} (h : k < 21) : slenl k < 100 := by
  have h1 := List.all_eq_true.mp txt_ok k (List.mem_range.mpr h)
  simp only [Bool.and_eq_true, decide_eq_true_eq] at h1
  exact h1.1
theorem getD_in {l : List Int} {j : Nat} (h : j < l.length) : l.getD j 0 ∈ l := by
  rw [List.getD_eq_getElem?_getD, List.getElem?_eq_getElem h]
  exact List.getElem_mem _
theorem txt_chr {k j : Nat} (h : k < 21) (hj : j < slenl k) : (0 ≤ (strb.getD k []).getD j 0 ∧ (strb.getD k []).getD j 0 < 128) ∧ Int32.ofInt ((strb.getD k []).getD j 0) &&& 255 = Int32.ofInt ((strb.getD k []).getD j 0) ∧ ((Int32.ofInt ((strb.getD k []).getD j 0)).toUInt32 % 65536).toInt32 = Int32.ofInt ((strb.getD k []).getD j 0) ∧ narrow .char (.int (Int32.ofInt ((strb.getD k []).getD j 0))) = .int (Int32.ofInt ((strb.getD k []).getD j 0)) := by
  have h1 := List.all_eq_true.mp txt_ok k (List.mem_range.mpr h)
  simp only [Bool.and_eq_true, decide_eq_true_eq] at h1
  have h2 : (strb.getD k []).getD j 0 ∈ strb.getD k [] := getD_in hj
  have h3 := List.all_eq_true.mp h1.2 _ h2
  simp only [Bool.and_eq_true, decide_eq_true_eq] at h3
  exact ⟨h3.1.1.1, h3.1.1.2, h3.1.2, congrArg Value.int h3.2⟩
theorem oi_w : Cond.code Lib.objectInit ⟨#[0xb1]⟩ 1 none ∈ lwG := mT_inG (k := 1) (by decide)
theorem oi_i : Cond.instanceMethod Lib.objectInit ∈ lwG := lwG_of (by decide +kernel) rfl
set_option maxHeartbeats 2000000 in
theorem s_len {q : PST} (C : C0 X SC y) (hd : decode (mT y).2.1 pc = .ok (raw, ln)) (hz : (isz raw == 0 || isz raw == ln) = true) (hl : okL SC Sh.length ls) (hst : okS SC Sh.length st) (hSh : okSh Sh) (hM : okM Sh M) (hc : chkI y raw (.invokedynamic 1) pc = true) (hs : stp X (.invokedynamic 1) ls st Sh M = some q) : SOK X SC y pc ln ls st Sh M q := by
  obtain ⟨hcl, hX0⟩ := C
  simp only [stp] at hs
  split at hs
  · rename_i k0 st
    split at hs
    · rename_i hk
      cases hs
      simp only [chkI] at hc
      split at hc
      · simp at hc
      · rename_i n0
        simp only [Bool.and_eq_true, decide_eq_true_eq] at hc
        obtain ⟨⟨-, hdp⟩, hc⟩ := hc
        have hlink : Cond.methodLink (cid (mcl y)) n0 yLen ∈ lwG := itb_in hcl hc
        obtain rfl := ln_of hz rfl (n := 3) rfl (by decide)
        have hsl := txt_len hk.1
        have hsv : slen k0 = (slenl k0 : Int) := rfl
        refine ⟨⟨hl, okS.cons (by rw [hsv]; show _ ∧ _; omega) hst.tl, hSh, hM, rfl, Nat.le_refl _, Nat.le_refl _⟩, fun p l e R s m args below meth c D cA adK adV A Q ad cells slots C hc1 hs1 k H locs lsA hP hD hS hv => ?_⟩
        obtain ⟨hx, hb, hr, hml, hown, hts, hlk, hin, hK, hA, hPS, hPR, hSC, hRf, hRl, -⟩ := C
        have k1 := k ad (fun _ _ => rfl) H locs lsA hP hD hS hv
        simp only [Nat.sub_self, Nat.add_zero] at k1 hc1 hs1
        have hPS2 : PSs adK adV A0 s H := (hPS.kept hS.2.1).narrow (fun _ h => h.elim)
        have hd4 : 2 ≤ mdep y := by omega
        refine vp_callSi (W.runV (As := []) (b := adK k0) (rest := st.map (trv ad adK)) ⟨hx, hb, hml, hown, hts⟩ (c_len (adV := adV) l hk.1) (cwV 0 hts (wsV_in (C := "java/lang/String") (k := 47) (by decide) hlink imLen seLen inStr) (by unfold wsY; rw [wLen]) rfl rfl (by decide +kernel) ⟨by show 1 + 1 ≤ R.frames; omega, by show 8 + (1 + 11) + 30 ≤ R.locals; omega⟩) ⟨PS_blind fun U g mk q => PSs.moved (Vm.Alike.refl U.vm) q, va_Orecv (hPS.1 k0 hk.1).1 hS, fun U hU hW => ⟨rfl, by show PSs adK adV A0 U U.heap; rw [hU]; exact hPS2.moved hW.alike⟩⟩ rfl rfl hv.1 rfl (lv_room (by have := cats_le (ad := ad) (adK := adK) st; omega)) hd ⟨by omega, by omega⟩) (fun r hr0 => ?_)
        have e9 : (Value.int r) = trv ad adK (vI (slen k0)) := by
          rw [show r = nI (slenl k0) from hr0, hsv]
          show Value.int (nI (slenl k0)) = Value.int (Int32.ofInt (slenl k0 : Int))
          rw [Int32.ofInt_eq_ofNat]
          rfl
        rw [e9]
        exact k1
      · simp at hc
      · cases hc
    · cases hs
  · cases hs
set_option maxHeartbeats 2000000 in
theorem s_chr {q : PST} (C : C0 X SC y) (hd : decode (mT y).2.1 pc = .ok (raw, ln)) (hz : (isz raw == 0 || isz raw == ln) = true) (hl : okL SC Sh.length ls) (hst : okS SC Sh.length st) (hSh : okSh Sh) (hM : okM Sh M) (hc : chkI y raw (.invokedynamic 2) pc = true) (hs : stp X (.invokedynamic 2) ls st Sh M = some q) : SOK X SC y pc ln ls st Sh M q := by
  obtain ⟨hcl, hX0⟩ := C
  simp only [stp] at hs
  split at hs
  · rename_i j k0 st
    split at hs
    · rename_i hk
      cases hs
      simp only [chkI] at hc
      split at hc
      · simp at hc
      · rename_i n0
        simp only [Bool.and_eq_true, decide_eq_true_eq] at hc
        obtain ⟨⟨-, hdp⟩, hc⟩ := hc
        have hlink : Cond.methodLink (cid (mcl y)) n0 yChr ∈ lwG := itb_in hcl hc
        obtain rfl := ln_of hz rfl (n := 3) rfl (by decide)
        have hsl := txt_len hk.1
        have hjn : j.toNat < slenl k0 := by have h1 := hk.2.2.1; have h2 : slen k0 = (slenl k0 : Int) := rfl; omega
        obtain ⟨hc0, hc1, hc2, hc3⟩ := txt_chr hk.1 hjn
        refine ⟨⟨hl, okS.cons (by show _ ∧ _; unfold schr; omega) hst.tl.tl, hSh, hM, rfl, Nat.le_refl _, Nat.le_refl _⟩, fun p l e R s m args below meth c D cA adK adV A Q ad cells slots C hq1 hs1 k H locs lsA hP hD hS hv => ?_⟩
        obtain ⟨hx, hb, hr, hml, hown, hts, hlk, hin, hK, hA, hPS, hPR, hSC, hRf, hRl, -⟩ := C
        have k1 := k ad (fun _ _ => rfl) H locs lsA hP hD hS hv
        simp only [Nat.sub_self, Nat.add_zero] at k1 hq1 hs1
        have hPS2 : PSs adK adV A0 s H := (hPS.kept hS.2.1).narrow (fun _ h => h.elim)
        have hd4 : 4 ≤ mdep y := by rcases hdp with h | h <;> omega
        have ej : Int32.ofInt j = nI j.toNat := by
          have := Int32.ofInt_eq_ofNat (n := j.toNat)
          rw [Int.toNat_of_nonneg hk.2.1] at this
          exact this
        show W p l e R s m args below meth c H locs cells slots Q (F0 m pc lsA (.int (Int32.ofInt j) :: .ref (adK k0) :: st.map (trv ad adK)))
        rw [ej]
        refine vp_callSi (W.runV (As := [.int (nI j.toNat)]) (b := adK k0) (rest := st.map (trv ad adK)) ⟨hx, hb, hml, hown, hts⟩ (c_chr (adV := adV) l hk.1 hjn (by omega) hc1 hc2 hc3) (cwV 1 hts (wsV_in (C := "java/lang/String") (k := 49) (by decide) hlink imChr seChr inStr) (by unfold wsY; rw [wChr]) rfl rfl (by decide +kernel) ⟨by show 3 + 1 ≤ R.frames; omega, by show 8 + (2 + 11) + 90 ≤ R.locals; omega⟩) ⟨PS_blind fun U g mk q => PSs.moved (Vm.Alike.refl U.vm) q, va_Orecv (hPS.1 k0 hk.1).1 hS, fun U hU hW => ⟨rfl, by show PSs adK adV A0 U U.heap; rw [hU]; exact hPS2.moved hW.alike⟩⟩ rfl rfl hv.1 rfl (lv_room (by have := cats_le (ad := ad) (adK := adK) st; omega)) hd ⟨by omega, by omega⟩) (fun r hr0 => ?_)
        have e9 : (Value.int r) = trv ad adK (vI (schr k0 j)) := by
          rw [show r = Int32.ofInt ((strb.getD k0 []).getD j.toNat 0) from hr0]
          rfl
        rw [e9]
        exact k1
      · simp at hc
      · cases hc
    · cases hs
  · cases hs
set_option maxHeartbeats 2000000 in
theorem s_oin {q : PST} (C : C0 X SC y) (hd : decode (mT y).2.1 pc = .ok (raw, ln)) (hz : (isz raw == 0 || isz raw == ln) = true) (hl : okL SC Sh.length ls) (hst : okS SC Sh.length st) (hSh : okSh Sh) (hM : okM Sh M) (hc : chkI y raw (.invokedynamic 3) pc = true) (hs : stp X (.invokedynamic 3) ls st Sh M = some q) : SOK X SC y pc ln ls st Sh M q := by
  obtain ⟨hcl, hX0⟩ := C
  simp only [stp] at hs
  split at hs
  · rename_i a st
    split at hs
    · rename_i hk
      cases hs
      simp only [chkI] at hc
      split at hc
      · simp at hc
      · simp at hc
      · rename_i n0
        simp only [Bool.and_eq_true, decide_eq_true_eq] at hc
        obtain ⟨⟨-, hdp⟩, hc⟩ := hc
        have hlink : Cond.methodLink (cid (mcl y)) n0 Lib.objectInit ∈ lwG := itb_in hcl hc
        obtain rfl := ln_of hz rfl (n := 3) rfl (by decide)
        refine sok_same hl hst.tl hSh hM rfl fun p l e R s m args below meth c D cA adK adV A Q ad cells slots C k H locs lsA hP hD hS hv => ?_
        obtain ⟨hx, hb, hr, hml, hown, hts, hlk, hin, hK, hA, hPS, hPR, hSC, hRf, hRl, -⟩ := C
        have k1 := k H locs lsA hP hD hS hv
        have hcs := cats_le (ad := ad) (adK := adK) st
        exact W.objInit hx hb hown (hts _ hlink) (hts _ oi_i) (hts _ oi_w) rfl (hv.1.trans hml.symm) (a := ad a) (rest := st.map (trv ad adK)) rfl hd (by omega) (by show 2 * 0 + _ + 12 ≤ _; omega) k1
      · cases hc
    · cases hs
  · cases hs
set_option maxHeartbeats 2000000 in
theorem s_mmin {q : PST} (C : C0 X SC y) (hd : decode (mT y).2.1 pc = .ok (raw, ln)) (hz : (isz raw == 0 || isz raw == ln) = true) (hl : okL SC Sh.length ls) (hst : okS SC Sh.length st) (hSh : okSh Sh) (hM : okM Sh M) (hc : chkI y raw (.invokedynamic 4) pc = true) (hs : stp X (.invokedynamic 4) ls st Sh M = some q) : SOK X SC y pc ln ls st Sh M q := by
  obtain ⟨hcl, hX0⟩ := C
  simp only [stp] at hs
  split at hs
  · rename_i b a st
    split at hs
    · rename_i hk
      cases hs
      simp only [chkI] at hc
      split at hc
      · rename_i n0
        simp only [Bool.and_eq_true, decide_eq_true_eq] at hc
        obtain ⟨⟨-, hdp⟩, hc⟩ := hc
        have hlink : Cond.methodLink (cid (mcl y)) n0 Lib.Math.min.name ∈ lwG := itb_in hcl hc
        obtain rfl := ln_of hz rfl (n := 3) rfl (by decide)
        have hb1 : -2147483648 ≤ b ∧ b < 2147483648 := hst.hd
        have ha1 : -2147483648 ≤ a ∧ a < 2147483648 := hst.tl.hd
        refine ⟨⟨hl, okS.cons (by show _ ∧ _; split <;> omega) hst.tl.tl, hSh, hM, rfl, Nat.le_refl _, Nat.le_refl _⟩, fun p l e R s m args below meth c D cA adK adV A Q ad cells slots C hq1 hs1 k H locs lsA hP hD hS hv => ?_⟩
        obtain ⟨hx, hb, hr, hml, hown, hts, hlk, hin, hK, hA, hPS, hPR, hSC, hRf, hRl, -⟩ := C
        have k1 := k ad (fun _ _ => rfl) H locs lsA hP hD hS hv
        simp only [Nat.sub_self, Nat.add_zero] at k1 hq1 hs1
        have hcs := cats_le (ad := ad) (adK := adK) st
        refine va_mmin hx hb (hml.trans hv.1.symm) hown (hts _ hlink) (hts _ (lwG_of (by decide +kernel) rfl)) (hts _ (lwG_of (by decide +kernel) rfl)) (hts _ (mT_inG (k := 39) (by decide))) (by omega) (by omega) hq1 hs1 (rest := st.map (trv ad adK)) (x := Int32.ofInt a) (y := Int32.ofInt b) hd ?_
        have e1 : Int32.ofInt (if b < a then b else a) = if Int32.ofInt b < Int32.ofInt a then Int32.ofInt b else Int32.ofInt a := by
          simp only [n_lt ha1 hb1, n_lt hb1 ha1]
          split <;> rfl
        rw [← e1]
        exact k1
      · simp at hc
      · simp at hc
      · cases hc
    · cases hs
  · cases hs
set_option maxHeartbeats 2000000 in
theorem s_mmax {q : PST} (C : C0 X SC y) (hd : decode (mT y).2.1 pc = .ok (raw, ln)) (hz : (isz raw == 0 || isz raw == ln) = true) (hl : okL SC Sh.length ls) (hst : okS SC Sh.length st) (hSh : okSh Sh) (hM : okM Sh M) (hc : chkI y raw (.invokedynamic 6) pc = true) (hs : stp X (.invokedynamic 6) ls st Sh M = some q) : SOK X SC y pc ln ls st Sh M q := by
  obtain ⟨hcl, hX0⟩ := C
  simp only [stp] at hs
  split at hs
  · rename_i b a st
    split at hs
    · rename_i hk
      cases hs
      simp only [chkI] at hc
      split at hc
      · rename_i n0
        simp only [Bool.and_eq_true, decide_eq_true_eq] at hc
        obtain ⟨⟨-, hdp⟩, hc⟩ := hc
        have hlink : Cond.methodLink (cid (mcl y)) n0 Lib.Math.max.name ∈ lwG := itb_in hcl hc
        obtain rfl := ln_of hz rfl (n := 3) rfl (by decide)
        have hb1 : -2147483648 ≤ b ∧ b < 2147483648 := hst.hd
        have ha1 : -2147483648 ≤ a ∧ a < 2147483648 := hst.tl.hd
        refine ⟨⟨hl, okS.cons (by show _ ∧ _; split <;> omega) hst.tl.tl, hSh, hM, rfl, Nat.le_refl _, Nat.le_refl _⟩, fun p l e R s m args below meth c D cA adK adV A Q ad cells slots C hq1 hs1 k H locs lsA hP hD hS hv => ?_⟩
        obtain ⟨hx, hb, hr, hml, hown, hts, hlk, hin, hK, hA, hPS, hPR, hSC, hRf, hRl, -⟩ := C
        have k1 := k ad (fun _ _ => rfl) H locs lsA hP hD hS hv
        simp only [Nat.sub_self, Nat.add_zero] at k1 hq1 hs1
        have hcs := cats_le (ad := ad) (adK := adK) st
        refine va_mmax hx hb (hml.trans hv.1.symm) hown (hts _ hlink) (hts _ (lwG_of (by decide +kernel) rfl)) (hts _ (lwG_of (by decide +kernel) rfl)) (hts _ (mT_inG (k := 133) (by decide))) (by omega) (by omega) hq1 hs1 (rest := st.map (trv ad adK)) (x := Int32.ofInt a) (y := Int32.ofInt b) hd ?_
        have e1 : Int32.ofInt (if a < b then b else a) = if Int32.ofInt a < Int32.ofInt b then Int32.ofInt b else Int32.ofInt a := by
          simp only [n_lt ha1 hb1, n_lt hb1 ha1]
          split <;> rfl
        rw [← e1]
        exact k1
      · simp at hc
      · simp at hc
      · cases hc
    · cases hs
  · cases hs
set_option maxHeartbeats 2000000 in
theorem s_mabs {q : PST} (C : C0 X SC y) (hd : decode (mT y).2.1 pc = .ok (raw, ln)) (hz : (isz raw == 0 || isz raw == ln) = true) (hl : okL SC Sh.length ls) (hst : okS SC Sh.length st) (hSh : okSh Sh) (hM : okM Sh M) (hc : chkI y raw (.invokedynamic 5) pc = true) (hs : stp X (.invokedynamic 5) ls st Sh M = some q) : SOK X SC y pc ln ls st Sh M q := by
  obtain ⟨hcl, hX0⟩ := C
  simp only [stp] at hs
  split at hs
  · rename_i a st
    split at hs
    · rename_i hk
      cases hs
      simp only [chkI] at hc
      split at hc
      · rename_i n0
        simp only [Bool.and_eq_true, decide_eq_true_eq] at hc
        obtain ⟨⟨-, hdp⟩, hc⟩ := hc
        have hlink : Cond.methodLink (cid (mcl y)) n0 Lib.Math.abs.name ∈ lwG := itb_in hcl hc
        obtain rfl := ln_of hz rfl (n := 3) rfl (by decide)
        have ha1 : -2147483648 ≤ a ∧ a < 2147483648 := hst.hd
        have hw := w32_rng (0 - a)
        refine ⟨⟨hl, okS.cons (by show _ ∧ _; split <;> omega) hst.tl, hSh, hM, rfl, Nat.le_refl _, Nat.le_refl _⟩, fun p l e R s m args below meth c D cA adK adV A Q ad cells slots C hq1 hs1 k H locs lsA hP hD hS hv => ?_⟩
        obtain ⟨hx, hb, hr, hml, hown, hts, hlk, hin, hK, hA, hPS, hPR, hSC, hRf, hRl, -⟩ := C
        have k1 := k ad (fun _ _ => rfl) H locs lsA hP hD hS hv
        simp only [Nat.sub_self, Nat.add_zero] at k1 hq1 hs1
        have hcs := cats_le (ad := ad) (adK := adK) st
        refine va_mabs hx hb (hml.trans hv.1.symm) hown (hts _ hlink) (hts _ (lwG_of (by decide +kernel) rfl)) (hts _ (lwG_of (by decide +kernel) rfl)) (hts _ (mT_inG (k := 101) (by decide))) (by omega) (by omega) hq1 hs1 (rest := st.map (trv ad adK)) (x := Int32.ofInt a) hd ?_
        have e1 : Int32.ofInt (if 0 ≤ a then a else w32 (0 - a)) = if 0 ≤ Int32.ofInt a then Int32.ofInt a else 0 - Int32.ofInt a := by
          have h0 : (0 ≤ Int32.ofInt a) ↔ 0 ≤ a := n_le (a := 0) (by omega) ha1
          simp only [h0]
          split
          · rfl
          · rw [n_w32, Int32.ofInt_sub]; rfl
        rw [← e1]
        exact k1
      · simp at hc
      · simp at hc
      · cases hc
    · cases hs
  · cases hs
set_option maxHeartbeats 4000000 in
theorem snd_stp {i : Instr} {q : PST} (C : C0 X SC y) (hd : decode (mT y).2.1 pc = .ok (raw, ln)) (hz : (isz raw == 0 || isz raw == ln) = true) (hl : okL SC Sh.length ls) (hst : okS SC Sh.length st) (hSh : okSh Sh) (hM : okM Sh M) (hctl : isCtl i = false) (hc : chkI y raw i pc = true) (hs : stp X i ls st Sh M = some q) : SOK X SC y pc ln ls st Sh M q := by
  cases i
  case iconst => exact s_iconst C hd hz hl hst hSh hM hc hs
  case goto_w => exact s_goto_w C hd hz hl hst hSh hM hc hs
  case ldc => exact s_ldc C hd hz hl hst hSh hM hc hs
  case aconst_null => exact s_aconst_null C hd hz hl hst hSh hM hc hs
  case iload => exact s_iload C hd hz hl hst hSh hM hc hs
  case lload => exact s_lload C hd hz hl hst hSh hM hc hs
  case aload => exact s_aload C hd hz hl hst hSh hM hc hs
  case istore => exact s_istore C hd hz hl hst hSh hM hc hs
  case lstore => exact s_lstore C hd hz hl hst hSh hM hc hs
  case astore => exact s_astore C hd hz hl hst hSh hM hc hs
  case iinc => exact s_iinc C hd hz hl hst hSh hM hc hs
  case iadd => exact s_iadd C hd hz hl hst hSh hM hc hs
  case isub => exact s_isub C hd hz hl hst hSh hM hc hs
  case imul => exact s_imul C hd hz hl hst hSh hM hc hs
  case ineg => exact s_ineg C hd hz hl hst hSh hM hc hs
  case idiv => exact s_idiv C hd hz hl hst hSh hM hc hs
  case irem => exact s_irem C hd hz hl hst hSh hM hc hs
  case iand => exact s_iand C hd hz hl hst hSh hM hc hs
  case ior => exact s_ior C hd hz hl hst hSh hM hc hs
  case ishl => exact s_ishl C hd hz hl hst hSh hM hc hs
  case ishr => exact s_ishr C hd hz hl hst hSh hM hc hs
  case ladd => exact s_ladd C hd hz hl hst hSh hM hc hs
  case lsub => exact s_lsub C hd hz hl hst hSh hM hc hs
  case lmul => exact s_lmul C hd hz hl hst hSh hM hc hs
  case ldiv => exact s_ldiv C hd hz hl hst hSh hM hc hs
  case lrem => exact s_lrem C hd hz hl hst hSh hM hc hs
  case land => exact s_land C hd hz hl hst hSh hM hc hs
  case lor => exact s_lor C hd hz hl hst hSh hM hc hs
  case lshl => exact s_lshl C hd hz hl hst hSh hM hc hs
  case i2l => exact s_i2l C hd hz hl hst hSh hM hc hs
  case l2i => exact s_l2i C hd hz hl hst hSh hM hc hs
  case i2b => exact s_i2b C hd hz hl hst hSh hM hc hs
  case i2s => exact s_i2s C hd hz hl hst hSh hM hc hs
  case lcmp => exact s_lcmp C hd hz hl hst hSh hM hc hs
  case dup => exact s_dup C hd hz hl hst hSh hM hc hs
  case dup2 => exact s_dup2 C hd hz hl hst hSh hM hc hs
  case pop => exact s_pop C hd hz hl hst hSh hM hc hs
  case arraylength => exact s_arraylength C hd hz hl hst hSh hM hc hs
  case iaload => exact s_iaload C hd hz hl hst hSh hM hc hs
  case laload => exact s_laload C hd hz hl hst hSh hM hc hs
  case baload => exact s_baload C hd hz hl hst hSh hM hc hs
  case aaload => exact s_aaload C hd hz hl hst hSh hM hc hs
  case iastore => exact s_iastore C hd hz hl hst hSh hM hc hs
  case lastore => exact s_lastore C hd hz hl hst hSh hM hc hs
  case bastore => exact s_bastore C hd hz hl hst hSh hM hc hs
  case aastore => exact s_aastore C hd hz hl hst hSh hM hc hs
  case getfield => exact s_getfield C hd hz hl hst hSh hM hc hs
  case getstatic => exact s_getstatic C hd hz hl hst hSh hM hc hs
  case checkcast => exact s_checkcast C hd hz hl hst hSh hM hc hs
  case putfield => exact s_putfield C hd hz hl hst hSh hM hc hs
  case instanceof => exact s_instanceof C hd hz hl hst hSh hM hc hs
  case putstatic => exact s_putstatic C hd hz hl hst hSh hM hc hs
  case multianewarray => exact s_multianewarray C hd hz hl hst hSh hM hc hs
  case new => exact s_new C hd hz hl hst hSh hM hc hs
  case newarray => exact s_newarray C hd hz hl hst hSh hM hc hs
  case anewarray => exact s_anewarray C hd hz hl hst hSh hM hc hs
  case invokedynamic j =>
    rcases j with _ | _ | _ | _ | _ | _ | _ | j
    · exact s_copy C hd hz hl hst hSh hM hc hs
    · exact s_len C hd hz hl hst hSh hM hc hs
    · exact s_chr C hd hz hl hst hSh hM hc hs
    · exact s_oin C hd hz hl hst hSh hM hc hs
    · exact s_mmin C hd hz hl hst hSh hM hc hs
    · exact s_mabs C hd hz hl hst hSh hM hc hs
    · exact s_mmax C hd hz hl hst hSh hM hc hs
    · exact absurd (show (none : Option PST) = some q from hs) (fun h => by cases h)
  all_goals first
    | exact Bool.noConfusion (show true = false from hctl)
    | exact absurd (show (none : Option PST) = some q from hs) (fun h => by cases h)
end TXTI
