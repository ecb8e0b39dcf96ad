/-! SOUNDNESS of the instructions that read and write the heap. -/
section MEMO
variable {X : Int → Int} {SC : Prop} {y : Nat} {p : Program} {l : Launch} {e : Env} {R : Room} {s : State} {m : MethodId} {args : Array Value} {below : List Frame} {meth : Method} {c : Code} {D : va_G} {cA : Nat → ClassId} {adK adV : Nat → Nat} {A : Nat → Prop} {Q : State → Prop}
variable {ad : Nat → Nat} {cells slots pc ln : Nat} {ls : PLS} {st : List PV} {Sh : List SE} {M : Mem} {raw : Instr}
theorem fb_byteP {x : Int32} (h1 : -128 ≤ x.toInt) (h2 : x.toInt < 128) : x.toInt8.toInt32 = x := by
  refine Int32.toInt_inj.mp ?_
  rw [Int8.toInt_toInt32, Int32.toInt_toInt8]
  rw [Int.bmod_eq_of_le (by omega) (by omega)]
theorem ent_obj {e : SE} {m : Int → Int} (h : e.1 < 100) : ent cA ad e m = .inr (e.1, (List.range e.2.1).map fun j => fvl ad (fty e.1 j) (e.2.2.getD j none) (m j)) := by unfold ent; rw [if_pos h]
theorem ent_i {e : SE} {m : Int → Int} (h : e.1 = 100) : ent cA ad e m = .inl (cA 0, e.2.1, .inl fun j => Int32.ofInt (m j)) := by unfold ent; rw [if_neg (by omega), if_neg (by omega), if_neg (by omega), h]
theorem ent_l {e : SE} {m : Int → Int} (h : e.1 = 101) : ent cA ad e m = .inl (cA 1, e.2.1, .inr (.inl fun j => Int64.ofInt (m j))) := by unfold ent; rw [if_neg (by omega), if_pos h]
theorem ent_b {e : SE} {m : Int → Int} (h : e.1 = 102) : ent cA ad e m = .inl (cA 2, e.2.1, .inl fun j => Int32.ofInt (m j)) := by unfold ent; rw [if_neg (by omega), if_neg (by omega), if_neg (by omega), h]
theorem ent_z {e : SE} {m : Int → Int} (h : e.1 = 103) : ent cA ad e m = .inl (cA 3, e.2.1, .inl fun j => Int32.ofInt (m j)) := by unfold ent; rw [if_neg (by omega), if_neg (by omega), if_neg (by omega), h]
theorem ent_q {e : SE} {m : Int → Int} (h : e.1 = 104 ∨ e.1 = 105) : ent cA ad e m = .inl (cA (e.1 - 100), e.2.1, .inr (.inr (.inr (.inr fun j => (e.2.2.getD j none).map ad)))) := by unfold ent; rw [if_neg (by omega), if_neg (by omega), if_pos h]
theorem fs_get {e : SE} {m : Int → Int} {k : Nat} (h : k < e.2.1) : ((List.range e.2.1).map fun j => fvl ad (fty e.1 j) (e.2.2.getD j none) (m j))[k]? = some (fvl ad (fty e.1 k) (e.2.2.getD k none) (m k)) := by simp [h]
theorem fs_set {n k : Nat} {f g : Nat → Value} (ho : ∀ j, j ≠ k → g j = f j) : ((List.range n).map f).set k (g k) = (List.range n).map g := by
  refine List.ext_getElem? fun i => ?_
  by_cases h : i = k
  · subst h
    by_cases h2 : i < n
    · rw [List.getElem?_set_self (by simpa using h2)]; simp [h2]
    · rw [List.getElem?_eq_none (by simp; omega), List.getElem?_eq_none (by simp; omega)]
  · rw [List.getElem?_set_ne (fun q => h q.symm)]
    by_cases h2 : i < n
    · simp [h2, ho i h]
    · rw [List.getElem?_eq_none (by simp; omega), List.getElem?_eq_none (by simp; omega)]
theorem up_at {a : Nat} {j z : Int} {i : Int} : up M a j z a i = if i = j then z else M a i := by simp [up]
theorem up_ne {a b : Nat} {j z : Int} (h : b ≠ a) : up M a j z b = M b := by funext i; simp [up, h]
theorem okM_up {a : Nat} {e : SE} {j z : Int} (hM : okM Sh M) (he : Sh[a]? = some e) (hz : ∀ k : Nat, (k : Int) = j → okC e.1 k z) : okM Sh (up M a j z) := by
  intro b e' hb k hk
  by_cases h : b = a
  · subst h
    cases he.symm.trans hb
    rw [up_at]
    split
    · rename_i h2; exact hz k h2
    · exact hM b e hb k hk
  · rw [up_ne h]; exact hM b e' hb k hk
theorem okC_obj {k j : Nat} {z : Int} (hk : k < 100) (h : okC k j z) : (fty k j = 0 → -2147483648 ≤ z ∧ z < 2147483648) ∧ (fty k j = 1 → -9223372036854775808 ≤ z ∧ z < 9223372036854775808) ∧ (fty k j = 3 → 0 ≤ z ∧ z < 2) := by
  unfold okC at h
  rw [if_pos hk] at h
  refine ⟨fun e => ?_, fun e => ?_, fun e => ?_⟩ <;> (rw [e] at h; omega)
theorem okC_arr {k j : Nat} {z : Int} (hk : 100 ≤ k) (h : okC k j z) : (k = 100 → -2147483648 ≤ z ∧ z < 2147483648) ∧ (k = 101 → -9223372036854775808 ≤ z ∧ z < 9223372036854775808) ∧ (k = 102 → -128 ≤ z ∧ z < 128) ∧ (k = 103 → 0 ≤ z ∧ z < 2) := by
  unfold okC at h
  rw [if_neg (by omega)] at h
  refine ⟨fun e => ?_, fun e => ?_, fun e => ?_, fun e => ?_⟩ <;> (subst e; omega)
theorem fname_eq (n : Nat) : fname n = (kT (n / 64) (n % 64)).2.1 := rfl
theorem fdesc_eq (n : Nat) : fdesc n = (kT (n / 64) (n % 64)).2.2.1 := rfl
/-- a field's facts -/
theorem fld {n j a : Nat} (hcl : mcl y < 16) (h : (ftb (mcl y)).any (fun q => decide (q.1 = j) && decide (q.2.1 = n)) = true) (hSh : okSh Sh) (hk : knd Sh a = n / 64) :
    ∃ e0 : SE, Sh[a]? = some e0 ∧ e0.1 = n / 64 ∧ n / 64 < 13 ∧ n % 64 < e0.2.1 ∧ e0.2.1 = cN (n / 64) ∧ e0.2.2.length = e0.2.1 ∧ a < Sh.length ∧ Cond.fieldLink (cid (mcl y)) j (cid (n / 64)) (kT (n / 64) (n % 64)).2.1 (kT (n / 64) (n % 64)).2.2.1 ∈ lwG := by
  obtain ⟨h1, h2, h3⟩ := ftb_in hcl h
  obtain ⟨e0, g1, g2, -, g4⟩ := knd_some hk (by omega)
  have g5 := hSh a e0 g1
  have g6 : e0.2.1 = cN (n / 64) ∧ e0.2.2.length = e0.2.1 := by
    rcases g5.2.2 with q | q | q
    · rw [← g2]; exact ⟨q.2.1, q.2.2⟩
    · omega
    · omega
  exact ⟨e0, g1, g2, h1, by rw [g6.1]; exact h2, g6.1, g6.2, g4, h3⟩
set_option maxHeartbeats 2000000 in
theorem s_getfield {q : PST} (C : C0 X SC y) (hd : decode (mT y).2.1 pc = .ok (raw, ln)) (hz : (isz raw == 0 || isz raw == ln) = true) (hl : okL SC Sh.length ls) (hst : okS SC Sh.length st) (hSh : okSh Sh) (hM : okM Sh M) {n0 : Nat} (hc : chkI y raw (.getfield n0) pc = true) (hs : stp X (.getfield n0) ls st Sh M = some q) : SOK X SC y pc ln ls st Sh M q := by
  obtain ⟨hcl, hX0⟩ := C
  simp only [stp] at hs
  split at hs
  · rename_i a st
    split at hs
    · rename_i hkd
      cases hs
      simp only [chkI, Bool.and_eq_true, decide_eq_true_eq] at hc
      obtain ⟨hty, hc⟩ := hc
      split at hc
      · rename_i j
        obtain ⟨e0, g1, g2, h13, g3, g4, g5, g6, hlink⟩ := fld hcl hc hSh hkd
        obtain rfl := ln_of hz rfl (n := 3) rfl (by decide)
        have hoc := okC_obj (by omega) (hM a e0 g1 (n0 % 64) g3)
        rw [g2] at hoc
        refine sok_same hl (okS.cons (show -2147483648 ≤ _ ∧ _ < 2147483648 from hty.elim (fun h => hoc.1 h) (fun h => by have := hoc.2.2 h; omega)) hst.tl) hSh hM rfl fun p l e R s m args below meth c D cA adK adV A Q ad cells slots C k H locs lsA hP hD hS hv => ?_
        obtain ⟨hx, hb, hr, hml, hown, hts, hlk, hin, hK, hA, hPS, hPR, hSC, hRf, hRl, -⟩ := C
        have k1 := k H locs lsA hP hD hS hv
        have he := wd_get (cA := cA) (ad := ad) (M := M) g1
        rw [ent_obj (by omega)] at he
        refine va_get hx hb hts (kcl_words h13) hown hK hP a he (by rw [g2]; exact kcl_at h13) (n0 % 64) (by rw [← g4]; exact g3) (hts _ hlink) (fun x hx2 => by rw [((kcl_desc h13) (n0 % 64) (by rw [← g4]; exact g3)).2] at hx2; exact hx2) (fs_get g3) hd ?_
        have e1 : fvl ad (fty e0.1 (n0 % 64)) (e0.2.2.getD (n0 % 64) none) (M a ((n0 % 64 : Nat) : Int)) = trv ad adK (vI (M a ((n0 % 64 : Nat) : Int))) := by
          rw [g2]
          rcases hty with h | h <;> (rw [h]; rfl)
        rw [e1]
        exact k1
      · cases hc
    · cases hs
  · cases hs
set_option maxHeartbeats 2000000 in
theorem s_getstatic {q : PST} (C : C0 X SC y) (hd : decode (mT y).2.1 pc = .ok (raw, ln)) (hz : (isz raw == 0 || isz raw == ln) = true) (hl : okL SC Sh.length ls) (hst : okS SC Sh.length st) (hSh : okSh Sh) (hM : okM Sh M) {n0 : Nat} (hc : chkI y raw (.getstatic n0) pc = true) (hs : stp X (.getstatic n0) ls st Sh M = some q) : SOK X SC y pc ln ls st Sh M q := by
  obtain ⟨hcl, hX0⟩ := C
  simp only [stp] at hs
  split at hs
  · rename_i a st
    split at hs
    · rename_i hkd
      cases hs
      simp only [chkI, Bool.and_eq_true, decide_eq_true_eq] at hc
      obtain ⟨hty, hc⟩ := hc
      split at hc
      · rename_i j
        obtain ⟨e0, g1, g2, h13, g3, g4, g5, g6, hlink⟩ := fld hcl hc hSh hkd
        obtain rfl := ln_of hz rfl (n := 3) rfl (by decide)
        have hoc := okC_obj (by omega) (hM a e0 g1 (n0 % 64) g3)
        rw [g2] at hoc
        refine sok_same hl (okS.cons (hoc.2.1 hty) hst.tl) hSh hM rfl fun p l e R s m args below meth c D cA adK adV A Q ad cells slots C k H locs lsA hP hD hS hv => ?_
        obtain ⟨hx, hb, hr, hml, hown, hts, hlk, hin, hK, hA, hPS, hPR, hSC, hRf, hRl, -⟩ := C
        have k1 := k H locs lsA hP hD hS hv
        have he := wd_get (cA := cA) (ad := ad) (M := M) g1
        rw [ent_obj (by omega)] at he
        refine va_get hx hb hts (kcl_words h13) hown hK hP a he (by rw [g2]; exact kcl_at h13) (n0 % 64) (by rw [← g4]; exact g3) (hts _ hlink) (fun x hx2 => by rw [((kcl_desc h13) (n0 % 64) (by rw [← g4]; exact g3)).2] at hx2; exact hx2) (fs_get g3) hd ?_
        have e1 : fvl ad (fty e0.1 (n0 % 64)) (e0.2.2.getD (n0 % 64) none) (M a ((n0 % 64 : Nat) : Int)) = trv ad adK (vL (M a ((n0 % 64 : Nat) : Int))) := by
          rw [g2]
          rw [hty]; rfl
        rw [e1]
        exact k1
      · cases hc
    · cases hs
  · cases hs
set_option maxHeartbeats 2000000 in
theorem s_checkcast {q : PST} (C : C0 X SC y) (hd : decode (mT y).2.1 pc = .ok (raw, ln)) (hz : (isz raw == 0 || isz raw == ln) = true) (hl : okL SC Sh.length ls) (hst : okS SC Sh.length st) (hSh : okSh Sh) (hM : okM Sh M) {n0 : Nat} (hc : chkI y raw (.checkcast n0) pc = true) (hs : stp X (.checkcast n0) ls st Sh M = some q) : SOK X SC y pc ln ls st Sh M q := by
  obtain ⟨hcl, hX0⟩ := C
  simp only [stp] at hs
  split at hs
  · rename_i a st
    split at hs
    · rename_i hkd
      cases hs
      simp only [chkI, Bool.and_eq_true, decide_eq_true_eq] at hc
      obtain ⟨hty, hc⟩ := hc
      split at hc
      · rename_i j
        obtain ⟨e0, g1, g2, h13, g3, g4, g5, g6, hlink⟩ := fld hcl hc hSh hkd
        obtain rfl := ln_of hz rfl (n := 3) rfl (by decide)
        have hoc := okC_obj (by omega) (hM a e0 g1 (n0 % 64) g3)
        rw [g2] at hoc
        refine sok_same hl (okS.cons (by unfold rfs; rw [g1]; cases hq : e0.2.2.getD (n0 % 64) none with | none => simp only [hq]; trivial | some r => simp only [hq]; exact (hSh a e0 g1).1 _ _ hq) hst.tl) hSh hM rfl fun p l e R s m args below meth c D cA adK adV A Q ad cells slots C k H locs lsA hP hD hS hv => ?_
        obtain ⟨hx, hb, hr, hml, hown, hts, hlk, hin, hK, hA, hPS, hPR, hSC, hRf, hRl, -⟩ := C
        have k1 := k H locs lsA hP hD hS hv
        have he := wd_get (cA := cA) (ad := ad) (M := M) g1
        rw [ent_obj (by omega)] at he
        refine va_get hx hb hts (kcl_words h13) hown hK hP a he (by rw [g2]; exact kcl_at h13) (n0 % 64) (by rw [← g4]; exact g3) (hts _ hlink) (fun x hx2 => by rw [((kcl_desc h13) (n0 % 64) (by rw [← g4]; exact g3)).2] at hx2; exact hx2) (fs_get g3) hd ?_
        have e1 : fvl ad (fty e0.1 (n0 % 64)) (e0.2.2.getD (n0 % 64) none) (M a ((n0 % 64 : Nat) : Int)) = trv ad adK (vR (rfs Sh a (n0 % 64))) := by
          rw [g2]
          rw [hty]; show va_rf _ = va_rf _; unfold rfs; rw [g1]
        rw [e1]
        exact k1
      · cases hc
    · cases hs
  · cases hs
set_option maxHeartbeats 2000000 in
theorem s_putfield {q : PST} (C : C0 X SC y) (hd : decode (mT y).2.1 pc = .ok (raw, ln)) (hz : (isz raw == 0 || isz raw == ln) = true) (hl : okL SC Sh.length ls) (hst : okS SC Sh.length st) (hSh : okSh Sh) (hM : okM Sh M) {n0 : Nat} (hc : chkI y raw (.putfield n0) pc = true) (hs : stp X (.putfield n0) ls st Sh M = some q) : SOK X SC y pc ln ls st Sh M q := by
  obtain ⟨hcl, hX0⟩ := C
  simp only [stp] at hs
  split at hs
  · rename_i z a st
    split at hs
    · rename_i hkd
      cases hs
      simp only [chkI, Bool.and_eq_true, decide_eq_true_eq, Bool.not_eq_true'] at hc
      obtain ⟨⟨hty, hfin⟩, hc⟩ := hc
      split at hc
      · rename_i j
        obtain ⟨e0, g1, g2, h13, g3, g4, g5, g6, hlink⟩ := fld hcl hc hSh hkd
        obtain rfl := ln_of hz rfl (n := 3) rfl (by decide)
        have hzr := hst.hd
        have hdes := kcl_desc h13 (n0 % 64) (by rw [← g4]; exact g3)
        have hM' : okM Sh (up M a ((n0 % 64 : Nat) : Int) z) := okM_up hM g1 fun k hk => by
          have hk2 : k = n0 % 64 := by omega
          subst hk2
          unfold okC
          rw [if_pos (by omega), g2, hty]
          exact Or.inl ⟨rfl, hzr⟩
        refine sok_same hl hst.tl.tl hSh hM' rfl fun p l e R s m args below meth c D cA adK adV A Q ad cells slots C k H locs lsA hP hD hS hv => ?_
        obtain ⟨hx, hb, hr, hml, hown, hts, hlk, hin, hK, hA, hPS, hPR, hSC, hRf, hRl, -⟩ := C
        have he := wd_get (cA := cA) (ad := ad) (M := M) g1
        rw [ent_obj (by omega)] at he
        have hct : ∃ t, cty (n0 / 64) (n0 % 64) = t ∧ narrow t (.int (Int32.ofInt z)) = (.int (Int32.ofInt z)) ∧ fits t (.int (Int32.ofInt z)) = true := by
          refine ⟨_, rfl, ?_⟩
          have h1 : tyc (cty (n0 / 64) (n0 % 64)) = 0 := hty
          generalize cty (n0 / 64) (n0 % 64) = t at h1
          cases t <;> first | (simp [tyc] at h1; done) | exact ⟨rfl, rfl⟩
        obtain ⟨t, ht1, ht2, ht3⟩ := hct
        refine va_put hx hb hts (kcl_words h13) (fun k => cty (n0 / 64) k) (fun k hk => (kcl_desc h13 k hk).1) (kcl_names h13) hown hK hP hD hS a he (by rw [g2]; exact kcl_at h13) (n0 % 64) (by rw [← g4]; exact g3) (hts _ hlink) (fun x hx2 => by rw [hdes.2] at hx2; exact hx2) (by exact hfin) (ty := t) (v := .int (Int32.ofInt z)) (by rw [← ht1]; exact hdes.1) ht2 ht3 (by simpa using g3) hd (fun H1 locs1 hP1 hD1 hS1 => ?_)
        have e1 : (wd cA ad Sh M).set a (ad a, .inr (e0.1, ((List.range e0.2.1).map fun j => fvl ad (fty e0.1 j) (e0.2.2.getD j none) (M a j)).set (n0 % 64) (.int (Int32.ofInt z)))) = wd cA ad Sh (up M a ((n0 % 64 : Nat) : Int) z) := by
          rw [← wd_set (M := M) (M' := up M a ((n0 % 64 : Nat) : Int) z) rfl g6 g1 (fun _ _ => rfl) (fun i hi => up_ne hi), ent_obj (by omega)]
          congr 3
          have e2 : (.int (Int32.ofInt z) : Value) = (fun j : Nat => fvl ad (fty e0.1 j) (e0.2.2.getD j none) (up M a ((n0 % 64 : Nat) : Int) z a j)) (n0 % 64) := by
            simp only [up_at, if_true]
            rw [g2, hty]
            rfl
          refine congrArg (Prod.mk e0.1) ?_
          refine (congrArg (fun w => ((List.range e0.2.1).map fun j => fvl ad (fty e0.1 j) (e0.2.2.getD j none) (M a j)).set (n0 % 64) w) e2).trans ?_
          refine fs_set (n := e0.2.1) (k := n0 % 64) (f := fun j : Nat => fvl ad (fty e0.1 j) (e0.2.2.getD j none) (M a j)) (g := fun j : Nat => fvl ad (fty e0.1 j) (e0.2.2.getD j none) (up M a ((n0 % 64 : Nat) : Int) z a j)) fun j hj => ?_
          show fvl _ _ _ (up M a ((n0 % 64 : Nat) : Int) z a j) = _
          rw [up_at, if_neg (by omega)]
        rw [e1] at hP1 hD1
        exact k H1 locs1 lsA hP1 hD1 hS1 hv
      · cases hc
    · cases hs
  · cases hs
set_option maxHeartbeats 2000000 in
theorem s_putstatic {q : PST} (C : C0 X SC y) (hd : decode (mT y).2.1 pc = .ok (raw, ln)) (hz : (isz raw == 0 || isz raw == ln) = true) (hl : okL SC Sh.length ls) (hst : okS SC Sh.length st) (hSh : okSh Sh) (hM : okM Sh M) {n0 : Nat} (hc : chkI y raw (.putstatic n0) pc = true) (hs : stp X (.putstatic n0) ls st Sh M = some q) : SOK X SC y pc ln ls st Sh M q := by
  obtain ⟨hcl, hX0⟩ := C
  simp only [stp] at hs
  split at hs
  · rename_i z a st
    split at hs
    · rename_i hkd
      cases hs
      simp only [chkI, Bool.and_eq_true, decide_eq_true_eq, Bool.not_eq_true'] at hc
      obtain ⟨⟨hty, hfin⟩, hc⟩ := hc
      split at hc
      · rename_i j
        obtain ⟨e0, g1, g2, h13, g3, g4, g5, g6, hlink⟩ := fld hcl hc hSh hkd
        obtain rfl := ln_of hz rfl (n := 3) rfl (by decide)
        have hzr := hst.hd
        have hdes := kcl_desc h13 (n0 % 64) (by rw [← g4]; exact g3)
        have hM' : okM Sh (up M a ((n0 % 64 : Nat) : Int) z) := okM_up hM g1 fun k hk => by
          have hk2 : k = n0 % 64 := by omega
          subst hk2
          unfold okC
          rw [if_pos (by omega), g2, hty]
          exact Or.inr (Or.inl ⟨rfl, hzr⟩)
        refine sok_same hl hst.tl.tl hSh hM' rfl fun p l e R s m args below meth c D cA adK adV A Q ad cells slots C k H locs lsA hP hD hS hv => ?_
        obtain ⟨hx, hb, hr, hml, hown, hts, hlk, hin, hK, hA, hPS, hPR, hSC, hRf, hRl, -⟩ := C
        have he := wd_get (cA := cA) (ad := ad) (M := M) g1
        rw [ent_obj (by omega)] at he
        have hct : ∃ t, cty (n0 / 64) (n0 % 64) = t ∧ narrow t (.long (Int64.ofInt z)) = (.long (Int64.ofInt z)) ∧ fits t (.long (Int64.ofInt z)) = true := by
          refine ⟨_, rfl, ?_⟩
          have h1 : tyc (cty (n0 / 64) (n0 % 64)) = 1 := hty
          generalize cty (n0 / 64) (n0 % 64) = t at h1
          cases t <;> first | (simp [tyc] at h1; done) | exact ⟨rfl, rfl⟩
        obtain ⟨t, ht1, ht2, ht3⟩ := hct
        refine va_put hx hb hts (kcl_words h13) (fun k => cty (n0 / 64) k) (fun k hk => (kcl_desc h13 k hk).1) (kcl_names h13) hown hK hP hD hS a he (by rw [g2]; exact kcl_at h13) (n0 % 64) (by rw [← g4]; exact g3) (hts _ hlink) (fun x hx2 => by rw [hdes.2] at hx2; exact hx2) (by exact hfin) (ty := t) (v := .long (Int64.ofInt z)) (by rw [← ht1]; exact hdes.1) ht2 ht3 (by simpa using g3) hd (fun H1 locs1 hP1 hD1 hS1 => ?_)
        have e1 : (wd cA ad Sh M).set a (ad a, .inr (e0.1, ((List.range e0.2.1).map fun j => fvl ad (fty e0.1 j) (e0.2.2.getD j none) (M a j)).set (n0 % 64) (.long (Int64.ofInt z)))) = wd cA ad Sh (up M a ((n0 % 64 : Nat) : Int) z) := by
          rw [← wd_set (M := M) (M' := up M a ((n0 % 64 : Nat) : Int) z) rfl g6 g1 (fun _ _ => rfl) (fun i hi => up_ne hi), ent_obj (by omega)]
          congr 3
          have e2 : (.long (Int64.ofInt z) : Value) = (fun j : Nat => fvl ad (fty e0.1 j) (e0.2.2.getD j none) (up M a ((n0 % 64 : Nat) : Int) z a j)) (n0 % 64) := by
            simp only [up_at, if_true]
            rw [g2, hty]
            rfl
          refine congrArg (Prod.mk e0.1) ?_
          refine (congrArg (fun w => ((List.range e0.2.1).map fun j => fvl ad (fty e0.1 j) (e0.2.2.getD j none) (M a j)).set (n0 % 64) w) e2).trans ?_
          refine fs_set (n := e0.2.1) (k := n0 % 64) (f := fun j : Nat => fvl ad (fty e0.1 j) (e0.2.2.getD j none) (M a j)) (g := fun j : Nat => fvl ad (fty e0.1 j) (e0.2.2.getD j none) (up M a ((n0 % 64 : Nat) : Int) z a j)) fun j hj => ?_
          show fvl _ _ _ (up M a ((n0 % 64 : Nat) : Int) z a j) = _
          rw [up_at, if_neg (by omega)]
        rw [e1] at hP1 hD1
        exact k H1 locs1 lsA hP1 hD1 hS1 hv
      · cases hc
    · cases hs
  · cases hs
set_option maxHeartbeats 2000000 in
theorem s_instanceof {q : PST} (C : C0 X SC y) (hd : decode (mT y).2.1 pc = .ok (raw, ln)) (hz : (isz raw == 0 || isz raw == ln) = true) (hl : okL SC Sh.length ls) (hst : okS SC Sh.length st) (hSh : okSh Sh) (hM : okM Sh M) {n0 : Nat} (hc : chkI y raw (.instanceof n0) pc = true) (hs : stp X (.instanceof n0) ls st Sh M = some q) : SOK X SC y pc ln ls st Sh M q := by
  obtain ⟨hcl, hX0⟩ := C
  simp only [stp] at hs
  split at hs
  · rename_i z a st
    split at hs
    · rename_i hkd
      cases hs
      simp only [chkI, Bool.and_eq_true, decide_eq_true_eq, Bool.not_eq_true'] at hc
      obtain ⟨⟨hty, hfin⟩, hc⟩ := hc
      split at hc
      · rename_i j
        obtain ⟨e0, g1, g2, h13, g3, g4, g5, g6, hlink⟩ := fld hcl hc hSh hkd.1
        obtain rfl := ln_of hz rfl (n := 3) rfl (by decide)
        have hzr := hst.hd
        have hdes := kcl_desc h13 (n0 % 64) (by rw [← g4]; exact g3)
        have hM' : okM Sh (up M a ((n0 % 64 : Nat) : Int) z) := okM_up hM g1 fun k hk => by
          have hk2 : k = n0 % 64 := by omega
          subst hk2
          unfold okC
          rw [if_pos (by omega), g2, hty]
          exact Or.inr (Or.inr (Or.inl ⟨rfl, hkd.2⟩))
        refine sok_same hl hst.tl.tl hSh hM' rfl fun p l e R s m args below meth c D cA adK adV A Q ad cells slots C k H locs lsA hP hD hS hv => ?_
        obtain ⟨hx, hb, hr, hml, hown, hts, hlk, hin, hK, hA, hPS, hPR, hSC, hRf, hRl, -⟩ := C
        have he := wd_get (cA := cA) (ad := ad) (M := M) g1
        rw [ent_obj (by omega)] at he
        have hct : ∃ t, cty (n0 / 64) (n0 % 64) = t ∧ narrow t (.int (Int32.ofInt z)) = (.int (Int32.ofInt z)) ∧ fits t (.int (Int32.ofInt z)) = true := by
          refine ⟨_, rfl, ?_⟩
          have h1 : tyc (cty (n0 / 64) (n0 % 64)) = 3 := hty
          have hz2 : z = 0 ∨ z = 1 := by omega
          generalize cty (n0 / 64) (n0 % 64) = t at h1
          cases t <;> first | (simp [tyc] at h1; done) | (rcases hz2 with rfl | rfl <;> exact ⟨rfl, rfl⟩)
        obtain ⟨t, ht1, ht2, ht3⟩ := hct
        refine va_put hx hb hts (kcl_words h13) (fun k => cty (n0 / 64) k) (fun k hk => (kcl_desc h13 k hk).1) (kcl_names h13) hown hK hP hD hS a he (by rw [g2]; exact kcl_at h13) (n0 % 64) (by rw [← g4]; exact g3) (hts _ hlink) (fun x hx2 => by rw [hdes.2] at hx2; exact hx2) (by exact hfin) (ty := t) (v := .int (Int32.ofInt z)) (by rw [← ht1]; exact hdes.1) ht2 ht3 (by simpa using g3) hd (fun H1 locs1 hP1 hD1 hS1 => ?_)
        have e1 : (wd cA ad Sh M).set a (ad a, .inr (e0.1, ((List.range e0.2.1).map fun j => fvl ad (fty e0.1 j) (e0.2.2.getD j none) (M a j)).set (n0 % 64) (.int (Int32.ofInt z)))) = wd cA ad Sh (up M a ((n0 % 64 : Nat) : Int) z) := by
          rw [← wd_set (M := M) (M' := up M a ((n0 % 64 : Nat) : Int) z) rfl g6 g1 (fun _ _ => rfl) (fun i hi => up_ne hi), ent_obj (by omega)]
          congr 3
          have e2 : (.int (Int32.ofInt z) : Value) = (fun j : Nat => fvl ad (fty e0.1 j) (e0.2.2.getD j none) (up M a ((n0 % 64 : Nat) : Int) z a j)) (n0 % 64) := by
            simp only [up_at, if_true]
            rw [g2, hty]
            rfl
          refine congrArg (Prod.mk e0.1) ?_
          refine (congrArg (fun w => ((List.range e0.2.1).map fun j => fvl ad (fty e0.1 j) (e0.2.2.getD j none) (M a j)).set (n0 % 64) w) e2).trans ?_
          refine fs_set (n := e0.2.1) (k := n0 % 64) (f := fun j : Nat => fvl ad (fty e0.1 j) (e0.2.2.getD j none) (M a j)) (g := fun j : Nat => fvl ad (fty e0.1 j) (e0.2.2.getD j none) (up M a ((n0 % 64 : Nat) : Int) z a j)) fun j hj => ?_
          show fvl _ _ _ (up M a ((n0 % 64 : Nat) : Int) z a j) = _
          rw [up_at, if_neg (by omega)]
        rw [e1] at hP1 hD1
        exact k H1 locs1 lsA hP1 hD1 hS1 hv
      · cases hc
    · cases hs
  · cases hs
set_option maxHeartbeats 2000000 in
theorem s_arraylength {q : PST} (C : C0 X SC y) (hd : decode (mT y).2.1 pc = .ok (raw, ln)) (hz : (isz raw == 0 || isz raw == ln) = true) (hl : okL SC Sh.length ls) (hst : okS SC Sh.length st) (hSh : okSh Sh) (hM : okM Sh M) (hc : chkI y raw (.arraylength) pc = true) (hs : stp X (.arraylength) ls st Sh M = some q) : SOK X SC y pc ln ls st Sh M q := by
  have hraw : raw = .arraylength := of_decide_eq_true hc
  obtain rfl := ln_of hz hraw (n := 1) rfl (by decide)
  subst hraw
  obtain ⟨hcl, hX0⟩ := C
  simp only [stp] at hs
  split at hs
  · rename_i a st
    split at hs
    · rename_i hk
      cases hs
      obtain ⟨e0, g1, g2, g3, g4⟩ := knd_some (k := knd Sh a) rfl (by omega)
      have g5 := (hSh a e0 g1).2.1
      refine sok_same hl (okS.cons (by rw [g3]; show _ ∧ _; omega) hst.tl) hSh hM rfl fun p l e R s m args below meth c D cA adK adV A Q ad cells slots C k H locs lsA hP hD hS hv => ?_
      obtain ⟨hx, hb, hr, hml, hown, hts, hlk, hin, hK, hA, hPS, hPR, hSC, hRf, hRl, -⟩ := C
      have k1 := k H locs lsA hP hD hS hv
      rw [g3] at k1
      have he := wd_get (cA := cA) (ad := ad) (M := M) g1
      have hi : (∃ x : vp_A, ent cA ad e0 (M a) = .inl (cA 0, x) ∧ x.1 = e0.2.1) ∨ (∃ x : vp_A, ent cA ad e0 (M a) = .inl (cA 1, x) ∧ x.1 = e0.2.1) ∨ (∃ x : vp_A, ent cA ad e0 (M a) = .inl (cA 2, x) ∧ x.1 = e0.2.1) ∨ (∃ x : vp_A, ent cA ad e0 (M a) = .inl (cA 3, x) ∧ x.1 = e0.2.1) ∨ (∃ x : vp_A, ent cA ad e0 (M a) = .inl (cA 4, x) ∧ x.1 = e0.2.1) ∨ (∃ x : vp_A, ent cA ad e0 (M a) = .inl (cA 5, x) ∧ x.1 = e0.2.1) := by
        rcases (by omega : e0.1 = 100 ∨ e0.1 = 101 ∨ e0.1 = 102 ∨ e0.1 = 103 ∨ e0.1 = 104 ∨ e0.1 = 105) with h | h | h | h | h | h
        · exact Or.inl ⟨_, ent_i h, rfl⟩
        · exact Or.inr (Or.inl ⟨_, ent_l h, rfl⟩)
        · exact Or.inr (Or.inr (Or.inl ⟨_, ent_b h, rfl⟩))
        · exact Or.inr (Or.inr (Or.inr (Or.inl ⟨_, ent_z h, rfl⟩)))
        · exact Or.inr (Or.inr (Or.inr (Or.inr (Or.inl ⟨_, (ent_q (Or.inl h)).trans (by rw [h]), rfl⟩))))
        · exact Or.inr (Or.inr (Or.inr (Or.inr (Or.inr ⟨_, (ent_q (Or.inr h)).trans (by rw [h]), rfl⟩))))
      have e1 : ∀ x : vp_A, x.1 = e0.2.1 → Int32.ofNat x.1 = Int32.ofInt (e0.2.1 : Int) := fun x h => by rw [h, Int32.ofInt_eq_ofNat]
      rcases hi with ⟨x, hx1, hx2⟩ | ⟨x, hx1, hx2⟩ | ⟨x, hx1, hx2⟩ | ⟨x, hx1, hx2⟩ | ⟨x, hx1, hx2⟩ | ⟨x, hx1, hx2⟩
      · rw [hx1] at he; exact va_alen hx hb hK hP a 0 he rfl (e1 x hx2) hd k1
      · rw [hx1] at he; exact va_alen hx hb hK hP a 1 he rfl (e1 x hx2) hd k1
      · rw [hx1] at he; exact va_alen hx hb hK hP a 2 he rfl (e1 x hx2) hd k1
      · rw [hx1] at he; exact va_alen hx hb hK hP a 3 he rfl (e1 x hx2) hd k1
      · rw [hx1] at he; exact va_alen hx hb hK hP a 4 he rfl (e1 x hx2) hd k1
      · rw [hx1] at he; exact va_alen hx hb hK hP a 5 he rfl (e1 x hx2) hd k1
    · cases hs
  · rename_i st
    cases hs
    have hSC1 : SC := by
      have := hst.hd
      rcases this with h | h
      · omega
      · exact h.2
    obtain ⟨⟨L0, hL1, hL2⟩, -⟩ := hX0 hSC1
    refine sok_same hl (okS.cons (by rw [hL2]; show _ ∧ _; omega) hst.tl) hSh hM rfl fun p l e R s m args below meth c D cA adK adV A Q ad cells slots C k H locs lsA hP hD hS hv => ?_
    obtain ⟨hx, hb, hr, hml, hown, hts, hlk, hin, hK, hA, hPS, hPR, hSC, hRf, hRl, -⟩ := C
    obtain ⟨L, xs, h1, h2, h3, h4, h5, h6⟩ := hSC hSC1
    have k1 := k H locs lsA hP hD hS hv
    refine va_slen hx hb h1 h2 h3 hS hd ?_
    rw [← Int32.ofInt_eq_ofNat, ← h5]
    exact k1
  · cases hs
set_option maxHeartbeats 2000000 in
theorem s_iaload {q : PST} (C : C0 X SC y) (hd : decode (mT y).2.1 pc = .ok (raw, ln)) (hz : (isz raw == 0 || isz raw == ln) = true) (hl : okL SC Sh.length ls) (hst : okS SC Sh.length st) (hSh : okSh Sh) (hM : okM Sh M) (hc : chkI y raw (.iaload) pc = true) (hs : stp X (.iaload) ls st Sh M = some q) : SOK X SC y pc ln ls st Sh M q := by
  have hraw : raw = .iaload := of_decide_eq_true hc
  obtain rfl := ln_of hz hraw (n := 1) rfl (by decide)
  subst hraw
  obtain ⟨hcl, hX0⟩ := C
  simp only [stp] at hs
  split at hs
  · rename_i j a st
    split at hs
    · rename_i hk
      cases hs
      obtain ⟨e0, g1, g2, g3, g4⟩ := knd_some hk.1 (by decide)
      obtain ⟨i1, i2, i3⟩ := n_ix hk.2.1 (by rw [← g3]; exact hk.2.2) (hSh a e0 g1).2.1
      have hoc := (okC_arr (by omega) (hM a e0 g1 j.toNat (by have := hk.2.2; omega))).1 g2
      rw [i3] at hoc
      refine sok_same hl (okS.cons hoc hst.tl.tl) hSh hM rfl fun p l e R s m args below meth c D cA adK adV A Q ad cells slots C k H locs lsA hP hD hS hv => ?_
      obtain ⟨hx, hb, hr, hml, hown, hts, hlk, hin, hK, hA, hPS, hPR, hSC, hRf, hRl, -⟩ := C
      have k1 := k H locs lsA hP hD hS hv
      have he := wd_get (cA := cA) (ad := ad) (M := M) g1
      rw [ent_i g2] at he
      refine va_iald hx hb hK hP a 0 he rfl i1 hd ?_
      rw [i2, i3]
      exact k1
    · cases hs
  · rename_i j st
    split at hs
    · rename_i hk
      cases hs
      have hSC1 : SC := by
        have := hst.tl.hd
        rcases this with h | h
        · omega
        · exact h.2
      refine sok_same hl (okS.cons ((hX0 hSC1).2 j hk.1 hk.2) hst.tl.tl) hSh hM rfl fun p l e R s m args below meth c D cA adK adV A Q ad cells slots C k H locs lsA hP hD hS hv => ?_
      obtain ⟨hx, hb, hr, hml, hown, hts, hlk, hin, hK, hA, hPS, hPR, hSC, hRf, hRl, -⟩ := C
      obtain ⟨L, xs, h1, h2, h3, h4, h5, h6⟩ := hSC hSC1
      obtain ⟨i1, i2, i3⟩ := n_ix hk.1 (by rw [← h5]; exact hk.2) h4
      have h7 := h6 j.toNat (by have := hk.2; omega)
      rw [i3] at h7
      have k1 := k H locs lsA hP hD hS hv
      refine va_sld hx hb h1 h2 h3 hS i1 hd ?_
      rw [i2, ← n_to (xs j.toNat), ← h7]
      exact k1
    · cases hs
  · cases hs
set_option maxHeartbeats 2000000 in
theorem s_laload {q : PST} (C : C0 X SC y) (hd : decode (mT y).2.1 pc = .ok (raw, ln)) (hz : (isz raw == 0 || isz raw == ln) = true) (hl : okL SC Sh.length ls) (hst : okS SC Sh.length st) (hSh : okSh Sh) (hM : okM Sh M) (hc : chkI y raw (.laload) pc = true) (hs : stp X (.laload) ls st Sh M = some q) : SOK X SC y pc ln ls st Sh M q := by
  have hraw : raw = .laload := of_decide_eq_true hc
  obtain rfl := ln_of hz hraw (n := 1) rfl (by decide)
  subst hraw
  obtain ⟨hcl, hX0⟩ := C
  simp only [stp] at hs
  split at hs
  · rename_i j a st
    split at hs
    · rename_i hk
      cases hs
      obtain ⟨e0, g1, g2, g3, g4⟩ := knd_some hk.1 (by decide)
      obtain ⟨i1, i2, i3⟩ := n_ix hk.2.1 (by rw [← g3]; exact hk.2.2) (hSh a e0 g1).2.1
      have hoc := (okC_arr (by omega) (hM a e0 g1 j.toNat (by have := hk.2.2; omega))).2.1 g2
      rw [i3] at hoc
      refine sok_same hl (okS.cons hoc hst.tl.tl) hSh hM rfl fun p l e R s m args below meth c D cA adK adV A Q ad cells slots C k H locs lsA hP hD hS hv => ?_
      obtain ⟨hx, hb, hr, hml, hown, hts, hlk, hin, hK, hA, hPS, hPR, hSC, hRf, hRl, -⟩ := C
      have k1 := k H locs lsA hP hD hS hv
      have he := wd_get (cA := cA) (ad := ad) (M := M) g1
      rw [ent_l g2] at he
      refine va_lald hx hb hK hP a 1 he rfl i1 hd ?_
      rw [i2, i3]
      exact k1
    · cases hs
  · cases hs
set_option maxHeartbeats 2000000 in
theorem s_baload {q : PST} (C : C0 X SC y) (hd : decode (mT y).2.1 pc = .ok (raw, ln)) (hz : (isz raw == 0 || isz raw == ln) = true) (hl : okL SC Sh.length ls) (hst : okS SC Sh.length st) (hSh : okSh Sh) (hM : okM Sh M) (hc : chkI y raw (.baload) pc = true) (hs : stp X (.baload) ls st Sh M = some q) : SOK X SC y pc ln ls st Sh M q := by
  have hraw : raw = .baload := of_decide_eq_true hc
  obtain rfl := ln_of hz hraw (n := 1) rfl (by decide)
  subst hraw
  obtain ⟨hcl, hX0⟩ := C
  simp only [stp] at hs
  split at hs
  · rename_i j a st
    split at hs
    · rename_i hk
      cases hs
      rcases hk.1 with hk1 | hk1
      · obtain ⟨e0, g1, g2, g3, g4⟩ := knd_some hk1 (by decide)
        obtain ⟨i1, i2, i3⟩ := n_ix hk.2.1 (by rw [← g3]; exact hk.2.2) (hSh a e0 g1).2.1
        have hoc := (okC_arr (by omega) (hM a e0 g1 j.toNat (by have := hk.2.2; omega))).2.2.1 g2
        rw [i3] at hoc
        refine sok_same hl (okS.cons (by show _ ∧ _; omega) hst.tl.tl) hSh hM rfl fun p l e R s m args below meth c D cA adK adV A Q ad cells slots C k H locs lsA hP hD hS hv => ?_
        obtain ⟨hx, hb, hr, hml, hown, hts, hlk, hin, hK, hA, hPS, hPR, hSC, hRf, hRl, -⟩ := C
        have k1 := k H locs lsA hP hD hS hv
        have he := wd_get (cA := cA) (ad := ad) (M := M) g1
        rw [ent_b g2] at he
        refine va_bald hx hb hK hP a 2 he rfl i1 hd ?_
        rw [i2, i3]
        exact k1
      · obtain ⟨e0, g1, g2, g3, g4⟩ := knd_some hk1 (by decide)
        obtain ⟨i1, i2, i3⟩ := n_ix hk.2.1 (by rw [← g3]; exact hk.2.2) (hSh a e0 g1).2.1
        have hoc := (okC_arr (by omega) (hM a e0 g1 j.toNat (by have := hk.2.2; omega))).2.2.2 g2
        rw [i3] at hoc
        refine sok_same hl (okS.cons (by show _ ∧ _; omega) hst.tl.tl) hSh hM rfl fun p l e R s m args below meth c D cA adK adV A Q ad cells slots C k H locs lsA hP hD hS hv => ?_
        obtain ⟨hx, hb, hr, hml, hown, hts, hlk, hin, hK, hA, hPS, hPR, hSC, hRf, hRl, -⟩ := C
        have k1 := k H locs lsA hP hD hS hv
        have he := wd_get (cA := cA) (ad := ad) (M := M) g1
        rw [ent_z g2] at he
        refine va_zald hx hb hK hP a 3 he rfl i1 hd ?_
        rw [i2, i3]
        exact k1
    · cases hs
  · cases hs
set_option maxHeartbeats 2000000 in
theorem s_aaload {q : PST} (C : C0 X SC y) (hd : decode (mT y).2.1 pc = .ok (raw, ln)) (hz : (isz raw == 0 || isz raw == ln) = true) (hl : okL SC Sh.length ls) (hst : okS SC Sh.length st) (hSh : okSh Sh) (hM : okM Sh M) (hc : chkI y raw (.aaload) pc = true) (hs : stp X (.aaload) ls st Sh M = some q) : SOK X SC y pc ln ls st Sh M q := by
  have hraw : raw = .aaload := of_decide_eq_true hc
  obtain rfl := ln_of hz hraw (n := 1) rfl (by decide)
  subst hraw
  obtain ⟨hcl, hX0⟩ := C
  simp only [stp] at hs
  split at hs
  · rename_i j a st
    split at hs
    · rename_i hk
      cases hs
      obtain ⟨e0, g1, g2, g3, g4⟩ := knd_some (k := knd Sh a) rfl (by omega)
      obtain ⟨i1, i2, i3⟩ := n_ix hk.2.1 (by rw [← g3]; exact hk.2.2) (hSh a e0 g1).2.1
      have hrf : rfs Sh a j.toNat = e0.2.2.getD j.toNat none := by unfold rfs; rw [g1]
      refine sok_same hl (okS.cons (by rw [hrf]; cases hq : e0.2.2.getD j.toNat none with | none => trivial | some r => exact (hSh a e0 g1).1 _ _ hq) hst.tl.tl) hSh hM rfl fun p l e R s m args below meth c D cA adK adV A Q ad cells slots C k H locs lsA hP hD hS hv => ?_
      obtain ⟨hx, hb, hr, hml, hown, hts, hlk, hin, hK, hA, hPS, hPR, hSC, hRf, hRl, -⟩ := C
      have k1 := k H locs lsA hP hD hS hv
      have he := wd_get (cA := cA) (ad := ad) (M := M) g1
      rw [hrf] at k1
      rcases hk.1 with hk1 | hk1
      · rw [ent_q (by omega), show e0.1 - 100 = 4 by omega] at he
        refine va_aldq hx hb hK hP a 4 he rfl i1 hd ?_
        rw [i2]
        exact k1
      · rw [ent_q (by omega), show e0.1 - 100 = 5 by omega] at he
        refine va_aldq hx hb hK hP a 5 he rfl i1 hd ?_
        rw [i2]
        exact k1
    · cases hs
  · cases hs
set_option maxHeartbeats 2000000 in
theorem s_iastore {q : PST} (C : C0 X SC y) (hd : decode (mT y).2.1 pc = .ok (raw, ln)) (hz : (isz raw == 0 || isz raw == ln) = true) (hl : okL SC Sh.length ls) (hst : okS SC Sh.length st) (hSh : okSh Sh) (hM : okM Sh M) (hc : chkI y raw (.iastore) pc = true) (hs : stp X (.iastore) ls st Sh M = some q) : SOK X SC y pc ln ls st Sh M q := by
  have hraw : raw = .iastore := of_decide_eq_true hc
  obtain rfl := ln_of hz hraw (n := 1) rfl (by decide)
  subst hraw
  obtain ⟨hcl, hX0⟩ := C
  simp only [stp] at hs
  split at hs
  · rename_i z j a st
    split at hs
    · rename_i hk
      cases hs
      obtain ⟨e0, g1, g2, g3, g4⟩ := knd_some hk.1 (by decide)
      obtain ⟨i1, i2, i3⟩ := n_ix hk.2.1 (by rw [← g3]; exact hk.2.2) (hSh a e0 g1).2.1
      have hzr := hst.hd
      have hM' : okM Sh (up M a j z) := okM_up hM g1 fun k hkk => by
        unfold okC
        rw [if_neg (by omega), g2]
        exact Or.inr (Or.inr (Or.inr (Or.inr (Or.inl ⟨rfl, hzr⟩))))
      refine sok_same hl hst.tl.tl.tl hSh hM' rfl fun p l e R s m args below meth c D cA adK adV A Q ad cells slots C k H locs lsA hP hD hS hv => ?_
      obtain ⟨hx, hb, hr, hml, hown, hts, hlk, hin, hK, hA, hPS, hPR, hSC, hRf, hRl, -⟩ := C
      have he := wd_get (cA := cA) (ad := ad) (M := M) g1
      rw [ent_i g2] at he
      refine va_iast hx hb hK hP hD hS a 0 he rfl i1 hd (fun H1 locs1 hP1 hD1 hS1 => ?_)
      have e1 : (wd cA ad Sh M).set a (ad a, .inl (cA 0, e0.2.1, .inl (upd (fun j => Int32.ofInt (M a j)) (Int32.ofInt j).toNatClampNeg (Int32.ofInt z)))) = wd cA ad Sh (up M a j z) := by
        rw [← wd_set (M := M) (M' := up M a j z) rfl g4 g1 (fun _ _ => rfl) (fun i hi => up_ne hi), ent_i g2]
        congr 5
        refine congrArg Sum.inl ?_
        funext q
        rw [i2]
        simp only [upd, up_at]
        by_cases h : q = j.toNat
        · rw [if_pos h, if_pos (by omega)]
        · rw [if_neg h, if_neg (by omega)]
      rw [e1] at hP1 hD1
      exact k H1 locs1 lsA hP1 hD1 hS1 hv
    · cases hs
  · cases hs
set_option maxHeartbeats 2000000 in
theorem s_lastore {q : PST} (C : C0 X SC y) (hd : decode (mT y).2.1 pc = .ok (raw, ln)) (hz : (isz raw == 0 || isz raw == ln) = true) (hl : okL SC Sh.length ls) (hst : okS SC Sh.length st) (hSh : okSh Sh) (hM : okM Sh M) (hc : chkI y raw (.lastore) pc = true) (hs : stp X (.lastore) ls st Sh M = some q) : SOK X SC y pc ln ls st Sh M q := by
  have hraw : raw = .lastore := of_decide_eq_true hc
  obtain rfl := ln_of hz hraw (n := 1) rfl (by decide)
  subst hraw
  obtain ⟨hcl, hX0⟩ := C
  simp only [stp] at hs
  split at hs
  · rename_i z j a st
    split at hs
    · rename_i hk
      cases hs
      obtain ⟨e0, g1, g2, g3, g4⟩ := knd_some hk.1 (by decide)
      obtain ⟨i1, i2, i3⟩ := n_ix hk.2.1 (by rw [← g3]; exact hk.2.2) (hSh a e0 g1).2.1
      have hzr := hst.hd
      have hM' : okM Sh (up M a j z) := okM_up hM g1 fun k hkk => by
        unfold okC
        rw [if_neg (by omega), g2]
        exact Or.inr (Or.inr (Or.inr (Or.inr (Or.inr (Or.inl ⟨rfl, hzr⟩)))))
      refine sok_same hl hst.tl.tl.tl hSh hM' rfl fun p l e R s m args below meth c D cA adK adV A Q ad cells slots C k H locs lsA hP hD hS hv => ?_
      obtain ⟨hx, hb, hr, hml, hown, hts, hlk, hin, hK, hA, hPS, hPR, hSC, hRf, hRl, -⟩ := C
      have he := wd_get (cA := cA) (ad := ad) (M := M) g1
      rw [ent_l g2] at he
      refine va_last hx hb hK hP hD hS a 1 he rfl i1 hd (fun H1 locs1 hP1 hD1 hS1 => ?_)
      have e1 : (wd cA ad Sh M).set a (ad a, .inl (cA 1, e0.2.1, .inr (.inl (vp_updL (fun j => Int64.ofInt (M a j)) (Int32.ofInt j).toNatClampNeg (Int64.ofInt z))))) = wd cA ad Sh (up M a j z) := by
        rw [← wd_set (M := M) (M' := up M a j z) rfl g4 g1 (fun _ _ => rfl) (fun i hi => up_ne hi), ent_l g2]
        congr 6
        refine congrArg Sum.inl ?_
        funext q
        rw [i2]
        simp only [vp_updL, up_at]
        by_cases h : q = j.toNat
        · rw [if_pos h, if_pos (by omega)]
        · rw [if_neg h, if_neg (by omega)]
      rw [e1] at hP1 hD1
      exact k H1 locs1 lsA hP1 hD1 hS1 hv
    · cases hs
  · cases hs
set_option maxHeartbeats 2000000 in
theorem s_bastore {q : PST} (C : C0 X SC y) (hd : decode (mT y).2.1 pc = .ok (raw, ln)) (hz : (isz raw == 0 || isz raw == ln) = true) (hl : okL SC Sh.length ls) (hst : okS SC Sh.length st) (hSh : okSh Sh) (hM : okM Sh M) (hc : chkI y raw (.bastore) pc = true) (hs : stp X (.bastore) ls st Sh M = some q) : SOK X SC y pc ln ls st Sh M q := by
  have hraw : raw = .bastore := of_decide_eq_true hc
  obtain rfl := ln_of hz hraw (n := 1) rfl (by decide)
  subst hraw
  obtain ⟨hcl, hX0⟩ := C
  simp only [stp] at hs
  split at hs
  · rename_i z j a st
    split at hs
    · rename_i hk
      cases hs
      rcases hk.1 with hk1 | hk1
      · have hz3 : vp_nar .byte (Int32.ofInt z) = Int32.ofInt z := by
          rw [vp_nar_byte]
          exact fb_byteP (by rw [n_of (by omega)]; exact hk1.2.1) (by rw [n_of (by omega)]; exact hk1.2.2)
        obtain ⟨e0, g1, g2, g3, g4⟩ := knd_some hk1.1 (by decide)
        obtain ⟨i1, i2, i3⟩ := n_ix hk.2.1 (by rw [← g3]; exact hk.2.2) (hSh a e0 g1).2.1
        have hzr := hst.hd
        have hM' : okM Sh (up M a j z) := okM_up hM g1 fun k hkk => by
          unfold okC
          rw [if_neg (by omega), g2]
          exact Or.inr (Or.inr (Or.inr (Or.inr (Or.inr (Or.inr (Or.inl ⟨rfl, hk1.2⟩))))))
        refine sok_same hl hst.tl.tl.tl hSh hM' rfl fun p l e R s m args below meth c D cA adK adV A Q ad cells slots C k H locs lsA hP hD hS hv => ?_
        obtain ⟨hx, hb, hr, hml, hown, hts, hlk, hin, hK, hA, hPS, hPR, hSC, hRf, hRl, -⟩ := C
        have he := wd_get (cA := cA) (ad := ad) (M := M) g1
        rw [ent_b g2] at he
        refine va_bast hx hb hK hP hD hS a 2 he rfl i1 hd (fun H1 locs1 hP1 hD1 hS1 => ?_)
        have e1 : (wd cA ad Sh M).set a (ad a, .inl (cA 2, e0.2.1, .inl (upd (fun j => Int32.ofInt (M a j)) (Int32.ofInt j).toNatClampNeg (vp_nar .byte (Int32.ofInt z))))) = wd cA ad Sh (up M a j z) := by
          rw [← wd_set (M := M) (M' := up M a j z) rfl g4 g1 (fun _ _ => rfl) (fun i hi => up_ne hi), ent_b g2]
          congr 5
          refine congrArg Sum.inl ?_
          funext q
          rw [i2, hz3]
          simp only [upd, up_at]
          by_cases h : q = j.toNat
          · rw [if_pos h, if_pos (by omega)]
          · rw [if_neg h, if_neg (by omega)]
        rw [e1] at hP1 hD1
        exact k H1 locs1 lsA hP1 hD1 hS1 hv
      · have hz3 : vp_nar .boolean (Int32.ofInt z) = Int32.ofInt z := by
          rcases (by omega : z = 0 ∨ z = 1) with rfl | rfl <;> rfl
        obtain ⟨e0, g1, g2, g3, g4⟩ := knd_some hk1.1 (by decide)
        obtain ⟨i1, i2, i3⟩ := n_ix hk.2.1 (by rw [← g3]; exact hk.2.2) (hSh a e0 g1).2.1
        have hzr := hst.hd
        have hM' : okM Sh (up M a j z) := okM_up hM g1 fun k hkk => by
          unfold okC
          rw [if_neg (by omega), g2]
          exact Or.inr (Or.inr (Or.inr (Or.inr (Or.inr (Or.inr (Or.inr (Or.inl ⟨rfl, hk1.2⟩)))))))
        refine sok_same hl hst.tl.tl.tl hSh hM' rfl fun p l e R s m args below meth c D cA adK adV A Q ad cells slots C k H locs lsA hP hD hS hv => ?_
        obtain ⟨hx, hb, hr, hml, hown, hts, hlk, hin, hK, hA, hPS, hPR, hSC, hRf, hRl, -⟩ := C
        have he := wd_get (cA := cA) (ad := ad) (M := M) g1
        rw [ent_z g2] at he
        refine va_zast hx hb hK hP hD hS a 3 he rfl i1 hd (fun H1 locs1 hP1 hD1 hS1 => ?_)
        have e1 : (wd cA ad Sh M).set a (ad a, .inl (cA 3, e0.2.1, .inl (upd (fun j => Int32.ofInt (M a j)) (Int32.ofInt j).toNatClampNeg (vp_nar .boolean (Int32.ofInt z))))) = wd cA ad Sh (up M a j z) := by
          rw [← wd_set (M := M) (M' := up M a j z) rfl g4 g1 (fun _ _ => rfl) (fun i hi => up_ne hi), ent_z g2]
          congr 5
          refine congrArg Sum.inl ?_
          funext q
          rw [i2, hz3]
          simp only [upd, up_at]
          by_cases h : q = j.toNat
          · rw [if_pos h, if_pos (by omega)]
          · rw [if_neg h, if_neg (by omega)]
        rw [e1] at hP1 hD1
        exact k H1 locs1 lsA hP1 hD1 hS1 hv
    · cases hs
  · cases hs
end MEMO
