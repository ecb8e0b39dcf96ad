/-! SOUNDNESS of the instructions that make cells or write references, of arraycopy, of the constants of text. -/
section ALLO
variable {X : Int → Int} {SC : Prop} {y : Nat} {p : Program} {l : Launch} {e : Env} {R : Room} {s : State} {m : MethodId} {args : Array Value} {below : List Frame} {meth : Method} {c : Code} {D : va_G} {cA : Nat → ClassId} {adK adV : Nat → Nat} {A : Nat → Prop} {Q : State → Prop}
variable {ad : Nat → Nat} {cells slots pc ln : Nat} {ls : PLS} {st : List PV} {Sh : List SE} {M : Mem} {raw : Instr}
theorem kcl_kind : (List.range 13).all (fun ci => (List.range (cN ci)).all (fun k => match cty ci k with | .int => true | .long => true | .boolean => true | .object _ => true | .array _ => true | _ => false)) = true := by decide +kernel
theorem cN_le : ∀ ci, ci < 13 → cN ci ≤ 60 := by decide
theorem fty_4 (ci k : Nat) : fty ci k = 0 ∨ fty ci k = 1 ∨ fty ci k = 2 ∨ fty ci k = 3 := by
  unfold fty tyc
  split <;> simp
theorem okC_0 {k : Nat} (j : Nat) (h : k < 13 ∨ 100 ≤ k) (h2 : k < 106) : okC k j 0 := by
  unfold okC
  by_cases hk : k < 100
  · rw [if_pos hk]
    rcases fty_4 k j with q | q | q | q <;> rw [q] <;> omega
  · rw [if_neg hk]; omega
theorem shset_eq {a k : Nat} {r : Option Nat} {e0 : SE} (h : Sh[a]? = some e0) : shset Sh a k r = Sh.set a (e0.1, e0.2.1, e0.2.2.set k r) := by unfold shset; rw [h]
theorem shset_len {a k : Nat} {r : Option Nat} : (shset Sh a k r).length = Sh.length := by unfold shset; split <;> simp
theorem shset_at {a k : Nat} {r : Option Nat} {e0 : SE} (h : Sh[a]? = some e0) : (shset Sh a k r)[a]? = some (e0.1, e0.2.1, e0.2.2.set k r) := by
  rw [shset_eq h, List.getElem?_set_self (List.getElem?_eq_some_iff.mp h).1]
theorem shset_ne {a k i : Nat} {r : Option Nat} {e0 : SE} (h : Sh[a]? = some e0) (hi : i ≠ a) : (shset Sh a k r)[i]? = Sh[i]? := by
  rw [shset_eq h, List.getElem?_set_ne (fun q => hi q.symm)]
theorem ssz_shset {a k : Nat} {r : Option Nat} {e0 : SE} (h : Sh[a]? = some e0) : ssz (shset Sh a k r) = ssz Sh := by
  rw [shset_eq h]
  unfold ssz
  congr 1
  refine List.ext_getElem? fun i => ?_
  by_cases hi : i = a
  · subst hi
    simp only [List.getElem?_map]
    rw [List.getElem?_set_self (List.getElem?_eq_some_iff.mp h).1, h]
    rfl
  · simp only [List.getElem?_map]
    rw [List.getElem?_set_ne (fun q => hi q.symm)]
theorem okSh_shset {a k : Nat} {r : Option Nat} {e0 : SE} (h : Sh[a]? = some e0) (hSh : okSh Sh) (hr : ∀ b, r = some b → b < Sh.length) : okSh (shset Sh a k r) := by
  intro i e1 hi
  rw [shset_len]
  by_cases hia : i = a
  · subst hia
    rw [shset_at h] at hi
    cases hi
    have h0 := hSh i e0 h
    refine ⟨fun j b hj => ?_, h0.2.1, by simpa using h0.2.2⟩
    simp only [List.getD_eq_getElem?_getD] at hj
    by_cases hjk : j = k
    · subst hjk
      by_cases hl2 : j < e0.2.2.length
      · rw [List.getElem?_set_self hl2] at hj
        exact hr b hj
      · rw [List.getElem?_eq_none (by simp; omega)] at hj
        cases hj
    · rw [List.getElem?_set_ne (fun q => hjk q.symm)] at hj
      exact h0.1 j b (by rw [List.getD_eq_getElem?_getD]; exact hj)
  · rw [shset_ne h hia] at hi
    exact hSh i e1 hi
theorem okM_shset {a k : Nat} {r : Option Nat} {e0 : SE} (h : Sh[a]? = some e0) (hM : okM Sh M) : okM (shset Sh a k r) M := by
  intro i e1 hi j hj
  by_cases hia : i = a
  · subst hia
    rw [shset_at h] at hi
    cases hi
    exact hM i e0 h j hj
  · rw [shset_ne h hia] at hi
    exact hM i e1 hi j hj
/-- a reference is written -/
theorem sok_ref {ls' : PLS} {st' : List PV} {a k0 : Nat} {r : Option Nat} {e0 : SE} (h1 : okL SC Sh.length ls') (h2 : okS SC Sh.length st') (h3 : okSh Sh) (h4 : okM Sh M) (h5 : ls'.length = ls.length) (he : Sh[a]? = some e0) (hr : ∀ b, r = some b → b < Sh.length)
    (h : ∀ (p : Program) (l : Launch) (e : Env) (R : Room) (s : State) (m : MethodId) (args : Array Value) (below : List Frame) (meth : Method) (c : Code) (D : va_G) (cA : Nat → ClassId) (adK adV : Nat → Nat) (A : Nat → Prop) (Q : State → Prop) (ad : Nat → Nat) (cells slots : Nat), Cx X SC y p R s m args meth c D cA adK adV A → GG X SC y p l e R s m args below meth c D cA adK adV A Q ad cells slots (pc + ln) ls' st' (shset Sh a k0 r) M → GG X SC y p l e R s m args below meth c D cA adK adV A Q ad cells slots pc ls st Sh M) : SOK X SC y pc ln ls st Sh M (ls', st', shset Sh a k0 r, M) := by
  refine ⟨⟨by simpa [shset_len] using h1, by simpa [shset_len] using h2, okSh_shset he h3 hr, okM_shset he h4, h5, by simp [shset_len], by simp [ssz_shset he]⟩, fun p l e R s m args below meth c D cA adK adV A Q ad cells slots C _ _ k => h p l e R s m args below meth c D cA adK adV A Q ad cells slots C ?_⟩
  have k1 := k ad (fun _ _ => rfl)
  simp only [shset_len, ssz_shset he, Nat.sub_self, Nat.add_zero] at k1
  exact k1
/-- a cell is made -/
theorem sok_push {st' : List PV} {e0 : SE} (hl : okL SC Sh.length ls) (hst : okS SC Sh.length st') (hSh : okSh Sh) (hM : okM Sh M) (hE : okE (Sh.length + 1) e0) (hz : ∀ k : Nat, okC e0.1 k 0)
    (hW : ∀ (p : Program) (l : Launch) (e : Env) (R : Room) (s : State) (m : MethodId) (args : Array Value) (below : List Frame) (meth : Method) (c : Code) (D : va_G) (cA : Nat → ClassId) (adK adV : Nat → Nat) (A : Nat → Prop) (Q : State → Prop) (ad : Nat → Nat) (cells slots : Nat), Cx X SC y p R s m args meth c D cA adK adV A → cells + 1 ≤ R.cells → slots + e0.2.1 ≤ R.slots → ∀ (H : Heap) (locs : List Loc) (lsA : Array Slot), va_P D kcl (wd cA ad Sh M) H → va_D A (wd cA ad Sh M) → va_S A s.heap H locs → lv_has lsA (mT y).2.2.1 (LV ad adK ls) →
      (∀ (q : Nat) (H1 : Heap), va_P D kcl (wd cA ad Sh M ++ [(q, ent cA (fun i => if i = Sh.length then q else ad i) e0 (fun _ => 0))]) H1 → va_D A (wd cA ad Sh M ++ [(q, ent cA (fun i => if i = Sh.length then q else ad i) e0 (fun _ => 0))]) → va_S A s.heap H1 locs → W p l e R s m args below meth c H1 locs (cells + 1) (slots + e0.2.1) Q (F0 m (pc + ln) lsA (.ref q :: st'.map (trv ad adK)))) → W p l e R s m args below meth c H locs cells slots Q (F0 m pc lsA (st.map (trv ad adK)))) : SOK X SC y pc ln ls st Sh M (ls, vR (some Sh.length) :: st', Sh ++ [e0], clr M Sh.length) := by
  have hlen : (Sh ++ [e0]).length = Sh.length + 1 := by simp
  have hmo : Sh.length ≤ (Sh ++ [e0]).length := by omega
  refine ⟨⟨hl.mono hmo, okS.cons (by show Sh.length < (Sh ++ [e0]).length; omega) (hst.mono hmo), ?_, ?_, rfl, hmo, by rw [ssz_push]; exact Nat.le_add_right _ _⟩, fun p l e R s m args below meth c D cA adK adV A Q ad cells slots C hc1 hs1 k => ?_⟩
  · intro i e1 hi
    show okE (Sh ++ [e0]).length e1
    rw [hlen]
    rcases Nat.lt_or_ge i Sh.length with q | q
    · have hi2 : Sh[i]? = some e1 := by rw [← List.getElem?_append_left q]; exact hi
      have h0 := hSh i e1 hi2
      exact ⟨fun j b hj => Nat.lt_succ_of_lt (h0.1 j b hj), h0.2⟩
    · have hlt := (List.getElem?_eq_some_iff.mp hi).1
      have e2 : i = Sh.length := by
        have h9 : i < (Sh ++ [e0]).length := hlt
        omega
      subst e2
      have hi2 : (Sh ++ [e0])[Sh.length]? = some e1 := hi
      rw [List.getElem?_append_right (Nat.le_refl _), Nat.sub_self] at hi2
      cases hi2
      exact hE
  · intro i e1 hi j hj
    show okC e1.1 j (clr M Sh.length i j)
    rcases Nat.lt_or_ge i Sh.length with q | q
    · have hi2 : Sh[i]? = some e1 := by rw [← List.getElem?_append_left q]; exact hi
      unfold clr
      rw [if_neg (by omega)]
      exact hM i e1 hi2 j hj
    · have hlt := (List.getElem?_eq_some_iff.mp hi).1
      have e2 : i = Sh.length := by
        have h9 : i < (Sh ++ [e0]).length := hlt
        omega
      subst e2
      have hi2 : (Sh ++ [e0])[Sh.length]? = some e1 := hi
      rw [List.getElem?_append_right (Nat.le_refl _), Nat.sub_self] at hi2
      cases hi2
      unfold clr
      rw [if_pos rfl]
      exact hz j
  · have hc2 : cells + ((Sh ++ [e0]).length - Sh.length) ≤ R.cells := hc1
    have hs2 : slots + (ssz (Sh ++ [e0]) - ssz Sh) ≤ R.slots := hs1
    have hcs : cells + ((Sh ++ [e0]).length - Sh.length) = cells + 1 := by omega
    have hss : slots + (ssz (Sh ++ [e0]) - ssz Sh) = slots + e0.2.1 := by rw [ssz_push]; omega
    rw [hcs] at hc2
    rw [hss] at hs2
    intro H locs lsA hP hD hS hv
    refine hW p l e R s m args below meth c D cA adK adV A Q ad cells slots C hc2 hs2 H locs lsA hP hD hS hv fun q H1 hP1 hD1 hS1 => ?_
    have hag : ∀ i, i < Sh.length → (fun i => if i = Sh.length then q else ad i) i = ad i := fun i hi => by simp only; rw [if_neg (by omega)]
    have hwd : wd cA (fun i => if i = Sh.length then q else ad i) (Sh ++ [e0]) (clr M Sh.length) = wd cA ad Sh M ++ [(q, ent cA (fun i => if i = Sh.length then q else ad i) e0 (fun _ => 0))] := by
      rw [wd_push hSh hag (M := M) (fun i hi => by funext j; unfold clr; rw [if_neg (by omega)])]
      have e3 : clr M Sh.length Sh.length = fun _ => 0 := by funext j; unfold clr; rw [if_pos rfl]
      rw [e3]
      simp only [if_true]
    have k1 := k (fun i => if i = Sh.length then q else ad i) hag H1 locs lsA (by rw [hwd]; exact hP1) (by rw [hwd]; exact hD1) hS1 (by rw [LV_ad hag hl]; exact hv)
    have k2 : W p l e R s m args below meth c H1 locs (cells + ((Sh ++ [e0]).length - Sh.length)) (slots + (ssz (Sh ++ [e0]) - ssz Sh)) Q (F0 m (pc + ln) lsA ((vR (some Sh.length) :: st').map (trv (fun i => if i = Sh.length then q else ad i) adK))) := k1
    rw [hcs, hss, List.map_cons, trv_map hag hst] at k2
    have e4 : trv (fun i => if i = Sh.length then q else ad i) adK (vR (some Sh.length)) = .ref q := by
      show va_rf (some (if Sh.length = Sh.length then q else ad Sh.length)) = .ref q
      rw [if_pos rfl]
      rfl
    rw [e4] at k2
    exact k2
set_option maxHeartbeats 2000000 in
theorem s_multianewarray {q : PST} (C : C0 X SC y) (hd : decode (mT y).2.1 pc = .ok (raw, ln)) (hz : (isz raw == 0 || isz raw == ln) = true) (hl : okL SC Sh.length ls) (hst : okS SC Sh.length st) (hSh : okSh Sh) (hM : okM Sh M) {n0 d0 : Nat} (hc : chkI y raw (.multianewarray n0 d0) pc = true) (hs : stp X (.multianewarray n0 d0) ls st Sh M = some q) : SOK X SC y pc ln ls st Sh M q := by
  obtain ⟨hcl, hX0⟩ := C
  simp only [stp] at hs
  split at hs
  · rename_i q0 a st
    split at hs
    · rename_i hkd
      cases hs
      simp only [chkI, Bool.and_eq_true, decide_eq_true_eq] at hc
      obtain ⟨⟨⟨⟨⟨hty, hrf⟩, hfin⟩, hnm⟩, hown2⟩, hc⟩ := hc
      split at hc
      · rename_i j
        obtain ⟨e0, g1, g2, h13, g3, g4, g5, g6, hlink⟩ := fld hcl hc hSh hkd
        obtain rfl := ln_of hz rfl (n := 3) rfl (by decide)
        have hzr := hst.hd
        have hdes := kcl_desc h13 (n0 % 64) (by rw [← g4]; exact g3)
        have hrr : ∀ b, q0 = some b → b < Sh.length := fun b hb2 => by subst hb2; exact hzr
        refine sok_ref hl hst.tl.tl hSh hM rfl g1 hrr fun p l e R s m args below meth c D cA adK adV A Q ad cells slots C k H locs lsA hP hD hS hv => ?_
        obtain ⟨hx, hb, hr, hml, hown, hts, hlk, hin, hK, hA, hPS, hPR, hSC, hRf, hRl, -⟩ := C
        have he := wd_get (cA := cA) (ad := ad) (M := M) g1
        rw [ent_obj (by omega)] at he
        have hct : ∃ t, cty (n0 / 64) (n0 % 64) = t ∧ narrow t (va_rf (q0.map ad)) = va_rf (q0.map ad) ∧ fits t (va_rf (q0.map ad)) = true := by
          refine ⟨_, rfl, ?_⟩
          generalize cty (n0 / 64) (n0 % 64) = t at hrf
          cases t <;> first | (simp at hrf; done) | (cases q0 <;> exact ⟨rfl, rfl⟩)
        obtain ⟨t, ht1, ht2, ht3⟩ := hct
        refine va_putF hx hb hts (kcl_words h13) (fun k => cty (n0 / 64) k) (fun k hk => (kcl_desc h13 k hk).1) (kcl_names h13) hown hK hP hD hS a he (by rw [g2]; exact kcl_at h13) (n0 % 64) (by rw [← g4]; exact g3) (hts _ hlink) (fun x hx2 => by rw [hdes.2] at hx2; exact hx2) (by exact hfin) (hin hnm) (by rw [hdes.2, hown2]) (ty := t) (v := va_rf (q0.map ad)) (by rw [← ht1]; exact hdes.1) ht2 ht3 (by simpa using g3) hd (fun H1 locs1 hP1 hD1 hS1 => ?_)
        have e1 : (wd cA ad Sh M).set a (ad a, .inr (e0.1, ((List.range e0.2.1).map fun j => fvl ad (fty e0.1 j) (e0.2.2.getD j none) (M a j)).set (n0 % 64) (va_rf (q0.map ad)))) = wd cA ad (shset Sh a (n0 % 64) q0) M := by
          rw [← wd_set (M := M) (M' := M) shset_len g6 (shset_at g1) (fun i hi => shset_ne g1 hi) (fun i hi => rfl), ent_obj (by show e0.1 < 100; omega)]
          congr 3
          refine congrArg (Prod.mk e0.1) ?_
          have e2 : (va_rf (q0.map ad) : Value) = (fun j : Nat => fvl ad (fty e0.1 j) ((e0.2.2.set (n0 % 64) q0).getD j none) (M a j)) (n0 % 64) := by
            show _ = fvl ad (fty e0.1 (n0 % 64)) ((e0.2.2.set (n0 % 64) q0).getD (n0 % 64) none) (M a ((n0 % 64 : Nat) : Int))
            rw [g2, hty, List.getD_eq_getElem?_getD, List.getElem?_set_self (by rw [g5]; exact g3)]
            rfl
          refine (congrArg (fun w => ((List.range e0.2.1).map fun j => fvl ad (fty e0.1 j) (e0.2.2.getD j none) (M a j)).set (n0 % 64) w) e2).trans ?_
          refine fs_set (n := e0.2.1) (k := n0 % 64) (f := fun j : Nat => fvl ad (fty e0.1 j) (e0.2.2.getD j none) (M a j)) (g := fun j : Nat => fvl ad (fty e0.1 j) ((e0.2.2.set (n0 % 64) q0).getD j none) (M a j)) fun j hj => ?_
          show fvl _ _ ((e0.2.2.set (n0 % 64) q0).getD j none) _ = _
          rw [List.getD_eq_getElem?_getD, List.getElem?_set_ne (fun q => hj q.symm), ← List.getD_eq_getElem?_getD]
        rw [e1] at hP1 hD1
        exact k H1 locs1 lsA hP1 hD1 hS1 hv
      · cases hc
    · cases hs
  · cases hs
set_option maxHeartbeats 2000000 in
theorem s_aastore {q : PST} (C : C0 X SC y) (hd : decode (mT y).2.1 pc = .ok (raw, ln)) (hz : (isz raw == 0 || isz raw == ln) = true) (hl : okL SC Sh.length ls) (hst : okS SC Sh.length st) (hSh : okSh Sh) (hM : okM Sh M) (hc : chkI y raw (.aastore) pc = true) (hs : stp X (.aastore) ls st Sh M = some q) : SOK X SC y pc ln ls st Sh M q := by
  have hraw : raw = .aastore := of_decide_eq_true hc
  obtain rfl := ln_of hz hraw (n := 1) rfl (by decide)
  subst hraw
  obtain ⟨hcl, hX0⟩ := C
  simp only [stp] at hs
  split at hs
  · rename_i r j a st
    split at hs
    · rename_i hk
      cases hs
      rcases hk.1 with hk1 | hk1
      · skip
        obtain ⟨e0, g1, g2, g3, g4⟩ := knd_some hk1.1 (by decide)
        obtain ⟨er, r1, r2, r3, r4⟩ := knd_some hk1.2 (by decide)
        obtain ⟨i1, i2, i3⟩ := n_ix hk.2.1 (by rw [← g3]; exact hk.2.2) (hSh a e0 g1).2.1
        have hlen : e0.2.2.length = e0.2.1 := by rcases (hSh a e0 g1).2.2 with q | q | q <;> omega
        refine sok_ref hl hst.tl.tl.tl hSh hM rfl g1 (fun b hb2 => by cases hb2; exact r4) fun p l e R s m args below meth c D cA adK adV A Q ad cells slots C k H locs lsA hP hD hS hv => ?_
        obtain ⟨hx, hb, hr, hml, hown, hts, hlk, hin, hK, hA, hPS, hPR, hSC, hRf, hRl, -⟩ := C
        have he := wd_get (cA := cA) (ad := ad) (M := M) g1
        rw [ent_q (by omega), show e0.1 - 100 = 4 by omega] at he
        have her := wd_get (cA := cA) (ad := ad) (M := M) r1
        rw [ent_obj (by omega), r2] at her
        refine va_astq hx hb hK hP hD hS a 4 r 10 he rfl her (kcl_at (by decide)) i1 hd (fun H1 locs1 hP1 hD1 hS1 => ?_)
        have e1 : (wd cA ad Sh M).set a (ad a, .inl (cA 4, e0.2.1, .inr (.inr (.inr (.inr (va_up (fun j => (e0.2.2.getD j none).map ad) (Int32.ofInt j).toNatClampNeg (some (ad r)))))))) = wd cA ad (shset Sh a j.toNat (some r)) M := by
          rw [← wd_set (M := M) (M' := M) shset_len g4 (shset_at g1) (fun i hi => shset_ne g1 hi) (fun i hi => rfl), ent_q (by show e0.1 = 104 ∨ e0.1 = 105; omega)]
          refine congrArg (fun w : Nat × va_E => (wd cA ad Sh M).set a w) (congrArg (fun w : va_E => (ad a, w)) (congrArg Sum.inl ?_))
          show (cA 4, e0.2.1, _) = (cA (e0.1 - 100), e0.2.1, _)
          rw [show e0.1 - 100 = 4 by omega]
          refine congrArg (fun w => (cA 4, e0.2.1, Sum.inr (Sum.inr (Sum.inr (Sum.inr w))))) ?_
          funext q
          rw [i2]
          unfold va_up
          by_cases h : q = j.toNat
          · subst h
            rw [if_pos rfl, List.getD_eq_getElem?_getD, List.getElem?_set_self (by rw [hlen]; have := hk.2.2; omega)]
            rfl
          · rw [if_neg h]
            show (e0.2.2.getD q none).map ad = ((e0.2.2.set j.toNat (some r)).getD q none).map ad
            rw [List.getD_eq_getElem?_getD, List.getD_eq_getElem?_getD, List.getElem?_set_ne (fun z => h z.symm)]
        rw [e1] at hP1 hD1
        exact k H1 locs1 lsA hP1 hD1 hS1 hv
      · skip
        obtain ⟨e0, g1, g2, g3, g4⟩ := knd_some hk1.1 (by decide)
        obtain ⟨er, r1, r2, r3, r4⟩ := knd_some hk1.2 (by decide)
        obtain ⟨i1, i2, i3⟩ := n_ix hk.2.1 (by rw [← g3]; exact hk.2.2) (hSh a e0 g1).2.1
        have hlen : e0.2.2.length = e0.2.1 := by rcases (hSh a e0 g1).2.2 with q | q | q <;> omega
        refine sok_ref hl hst.tl.tl.tl hSh hM rfl g1 (fun b hb2 => by cases hb2; exact r4) fun p l e R s m args below meth c D cA adK adV A Q ad cells slots C k H locs lsA hP hD hS hv => ?_
        obtain ⟨hx, hb, hr, hml, hown, hts, hlk, hin, hK, hA, hPS, hPR, hSC, hRf, hRl, -⟩ := C
        have he := wd_get (cA := cA) (ad := ad) (M := M) g1
        rw [ent_q (by omega), show e0.1 - 100 = 5 by omega] at he
        have her := wd_get (cA := cA) (ad := ad) (M := M) r1
        rw [ent_obj (by omega), r2] at her
        refine va_astq hx hb hK hP hD hS a 5 r 11 he rfl her (kcl_at (by decide)) i1 hd (fun H1 locs1 hP1 hD1 hS1 => ?_)
        have e1 : (wd cA ad Sh M).set a (ad a, .inl (cA 5, e0.2.1, .inr (.inr (.inr (.inr (va_up (fun j => (e0.2.2.getD j none).map ad) (Int32.ofInt j).toNatClampNeg (some (ad r)))))))) = wd cA ad (shset Sh a j.toNat (some r)) M := by
          rw [← wd_set (M := M) (M' := M) shset_len g4 (shset_at g1) (fun i hi => shset_ne g1 hi) (fun i hi => rfl), ent_q (by show e0.1 = 104 ∨ e0.1 = 105; omega)]
          refine congrArg (fun w : Nat × va_E => (wd cA ad Sh M).set a w) (congrArg (fun w : va_E => (ad a, w)) (congrArg Sum.inl ?_))
          show (cA 5, e0.2.1, _) = (cA (e0.1 - 100), e0.2.1, _)
          rw [show e0.1 - 100 = 5 by omega]
          refine congrArg (fun w => (cA 5, e0.2.1, Sum.inr (Sum.inr (Sum.inr (Sum.inr w))))) ?_
          funext q
          rw [i2]
          unfold va_up
          by_cases h : q = j.toNat
          · subst h
            rw [if_pos rfl, List.getD_eq_getElem?_getD, List.getElem?_set_self (by rw [hlen]; have := hk.2.2; omega)]
            rfl
          · rw [if_neg h]
            show (e0.2.2.getD q none).map ad = ((e0.2.2.set j.toNat (some r)).getD q none).map ad
            rw [List.getD_eq_getElem?_getD, List.getD_eq_getElem?_getD, List.getElem?_set_ne (fun z => h z.symm)]
        rw [e1] at hP1 hD1
        exact k H1 locs1 lsA hP1 hD1 hS1 hv
    · cases hs
  · cases hs
set_option maxHeartbeats 2000000 in
theorem s_new {q : PST} (C : C0 X SC y) (hd : decode (mT y).2.1 pc = .ok (raw, ln)) (hz : (isz raw == 0 || isz raw == ln) = true) (hl : okL SC Sh.length ls) (hst : okS SC Sh.length st) (hSh : okSh Sh) (hM : okM Sh M) {c0 : Nat} (hc : chkI y raw (.new c0) pc = true) (hs : stp X (.new c0) ls st Sh M = some q) : SOK X SC y pc ln ls st Sh M q := by
  obtain ⟨hcl, hX0⟩ := C
  simp only [stp] at hs
  cases hs
  simp only [chkI] at hc
  split at hc
  · rename_i j
    obtain ⟨h13, hlink⟩ := ktb_in hcl hc
    obtain ⟨hw1, hw2⟩ := kcl_words2 h13
    obtain rfl := ln_of hz rfl (n := 3) rfl (by decide)
    refine sok_push hl hst hSh hM ⟨fun k r hk => ?_, by have := cN_le c0 h13; show cN c0 ≤ _; omega, Or.inl ⟨h13, rfl, List.length_replicate⟩⟩ (fun k => okC_0 k (Or.inl h13) (by show c0 < 106; omega)) fun p l e R s m args below meth c D cA adK adV A Q ad cells slots C hc1 hs1 H locs lsA hP hD hS hv k => ?_
    · exfalso
      have hk2 : (List.replicate (cN c0) (none : Option Nat)).getD k none = some r := hk
      rw [List.getD_eq_getElem?_getD, List.getElem?_replicate] at hk2
      split at hk2 <;> cases hk2
    · obtain ⟨hx, hb, hr, hml, hown, hts, hlk, hin, hK, hA, hPS, hPR, hSC, hRf, hRl, -⟩ := C
      refine va_new (fs := (List.range (cN c0)).map fun j => fvl ad (fty c0 j) none 0) hx hb hts (kcl_words h13) (fun k => cty c0 k) (fun k hk => (kcl_desc h13 k hk).1) hown (hts _ hlink) (hts _ hw1) (hts _ hw2) hK hP hD hS hA (kcl_at h13) (fun j hj => ?_) hc1 hs1 hd (fun q H1 hP1 hD1 hS1 => ?_)
      · unfold vp_V
        rw [List.getD_eq_getElem?_getD, List.getElem?_map, List.getElem?_range hj]
        have h1 := List.all_eq_true.mp (List.all_eq_true.mp kcl_kind c0 (List.mem_range.mpr h13)) j (List.mem_range.mpr hj)
        simp only [Option.map_some, Option.getD_some]
        show defaultValue (cty c0 j) = fvl ad (tyc (cty c0 j)) none 0
        generalize cty c0 j = t at h1
        cases t <;> first | (simp at h1; done) | rfl
      · have e1 : ent cA (fun i => if i = Sh.length then q else ad i) (c0, cN c0, List.replicate (cN c0) none) (fun _ => 0) = .inr (c0, (List.range (cN c0)).map fun j => fvl ad (fty c0 j) none 0) := by
          rw [ent_obj (by show c0 < 100; omega)]
          congr 2
          refine List.map_congr_left fun j hj => ?_
          have e2 : (List.replicate (cN c0) (none : Option Nat)).getD j none = none := by
            rw [List.getD_eq_getElem?_getD, List.getElem?_replicate]
            split <;> rfl
          show fvl _ (fty c0 j) ((List.replicate (cN c0) (none : Option Nat)).getD j none) 0 = _
          rw [e2]
          unfold fvl
          split <;> rfl
        refine k q H1 ?_ ?_ hS1
        · rw [e1]; exact hP1
        · rw [e1]; exact hD1
  · cases hc
set_option maxHeartbeats 2000000 in
theorem s_newarray {q : PST} (C : C0 X SC y) (hd : decode (mT y).2.1 pc = .ok (raw, ln)) (hz : (isz raw == 0 || isz raw == ln) = true) (hl : okL SC Sh.length ls) (hst : okS SC Sh.length st) (hSh : okSh Sh) (hM : okM Sh M) {t0 : ArrayType} (hc : chkI y raw (.newarray t0) pc = true) (hs : stp X (.newarray t0) ls st Sh M = some q) : SOK X SC y pc ln ls st Sh M q := by
  obtain ⟨hcl, hX0⟩ := C
  simp only [stp] at hs
  split at hs
  · rename_i n st
    split at hs
    · rename_i hn
      cases hs
      simp only [chkI, Bool.and_eq_true, decide_eq_true_eq] at hc
      obtain ⟨hk4, hc⟩ := hc
      split at hc
      · rename_i t2
        simp only [decide_eq_true_eq] at hc
        subst hc
        obtain rfl := ln_of hz rfl (n := 2) rfl (by decide)
        obtain ⟨hn1, hn2⟩ := n_clamp hn.1 (by omega : n ≤ 1000000)
        cases t2 <;> first | (exfalso; revert hk4; decide) | skip
        · refine sok_push (e0 := (103, n.toNat, [])) hl hst.tl hSh hM ⟨fun k r hk => by simp at hk, by show n.toNat ≤ _; omega, Or.inr (Or.inl ⟨Nat.le_of_ble_eq_true rfl, Nat.le_of_ble_eq_true rfl⟩)⟩ (fun k => okC_0 k (Or.inr (Nat.le_of_ble_eq_true rfl)) (Nat.le_of_ble_eq_true rfl)) fun p l e R s m args below meth c D cA adK adV A Q ad cells slots C hc1 hs1 H locs lsA hP hD hS hv k => ?_
          obtain ⟨hx, hb, hr, hml, hown, hts, hlk, hin, hK, hA, hPS, hPR, hSC, hRf, hRl, -⟩ := C
          refine va_newa (atype := .boolean) (ty := .boolean) (N' := n.toNat) (a0 := (n.toNat, .inl fun _ => 0)) hx hb (hts _ (lwG_of (by decide +kernel) rfl)) rfl hK hP hD hS hA (fun cX => rfl) hn2 hn1 (by show n.toNat * 1 ≤ _; omega) hc1 hs1 hd (fun q cX H1 hK1 hP1 hD1 hS1 => ?_)
          have eC : cX = cA 3 := by
            have g1 := (hK1.2 (tyL cA).length (cX, .boolean) (by simp)).2
            have g2 := (hK.2 3 (cA 3, .boolean) rfl).2
            have g3 : s.vm.findClass ("[" ++ (FieldType.boolean).toString) = some cX := g1
            have g4 : s.vm.findClass ("[" ++ (FieldType.boolean).toString) = some (cA 3) := g2
            rw [g3] at g4
            exact Option.some.inj g4
          subst eC
          exact k q H1 hP1 hD1 hS1
        · refine sok_push (e0 := (102, n.toNat, [])) hl hst.tl hSh hM ⟨fun k r hk => by simp at hk, by show n.toNat ≤ _; omega, Or.inr (Or.inl ⟨Nat.le_of_ble_eq_true rfl, Nat.le_of_ble_eq_true rfl⟩)⟩ (fun k => okC_0 k (Or.inr (Nat.le_of_ble_eq_true rfl)) (Nat.le_of_ble_eq_true rfl)) fun p l e R s m args below meth c D cA adK adV A Q ad cells slots C hc1 hs1 H locs lsA hP hD hS hv k => ?_
          obtain ⟨hx, hb, hr, hml, hown, hts, hlk, hin, hK, hA, hPS, hPR, hSC, hRf, hRl, -⟩ := C
          refine va_newa (atype := .byte) (ty := .byte) (N' := n.toNat) (a0 := (n.toNat, .inl fun _ => 0)) hx hb (hts _ (lwG_of (by decide +kernel) rfl)) rfl hK hP hD hS hA (fun cX => rfl) hn2 hn1 (by show n.toNat * 1 ≤ _; omega) hc1 hs1 hd (fun q cX H1 hK1 hP1 hD1 hS1 => ?_)
          have eC : cX = cA 2 := by
            have g1 := (hK1.2 (tyL cA).length (cX, .byte) (by simp)).2
            have g2 := (hK.2 2 (cA 2, .byte) rfl).2
            have g3 : s.vm.findClass ("[" ++ (FieldType.byte).toString) = some cX := g1
            have g4 : s.vm.findClass ("[" ++ (FieldType.byte).toString) = some (cA 2) := g2
            rw [g3] at g4
            exact Option.some.inj g4
          subst eC
          exact k q H1 hP1 hD1 hS1
        · refine sok_push (e0 := (100, n.toNat, [])) hl hst.tl hSh hM ⟨fun k r hk => by simp at hk, by show n.toNat ≤ _; omega, Or.inr (Or.inl ⟨Nat.le_of_ble_eq_true rfl, Nat.le_of_ble_eq_true rfl⟩)⟩ (fun k => okC_0 k (Or.inr (Nat.le_of_ble_eq_true rfl)) (Nat.le_of_ble_eq_true rfl)) fun p l e R s m args below meth c D cA adK adV A Q ad cells slots C hc1 hs1 H locs lsA hP hD hS hv k => ?_
          obtain ⟨hx, hb, hr, hml, hown, hts, hlk, hin, hK, hA, hPS, hPR, hSC, hRf, hRl, -⟩ := C
          refine va_newa (atype := .int) (ty := .int) (N' := n.toNat) (a0 := (n.toNat, .inl fun _ => 0)) hx hb (hts _ (lwG_of (by decide +kernel) rfl)) rfl hK hP hD hS hA (fun cX => rfl) hn2 hn1 (by show n.toNat * 4 ≤ _; omega) hc1 hs1 hd (fun q cX H1 hK1 hP1 hD1 hS1 => ?_)
          have eC : cX = cA 0 := by
            have g1 := (hK1.2 (tyL cA).length (cX, .int) (by simp)).2
            have g2 := (hK.2 0 (cA 0, .int) rfl).2
            have g3 : s.vm.findClass ("[" ++ (FieldType.int).toString) = some cX := g1
            have g4 : s.vm.findClass ("[" ++ (FieldType.int).toString) = some (cA 0) := g2
            rw [g3] at g4
            exact Option.some.inj g4
          subst eC
          exact k q H1 hP1 hD1 hS1
        · refine sok_push (e0 := (101, n.toNat, [])) hl hst.tl hSh hM ⟨fun k r hk => by simp at hk, by show n.toNat ≤ _; omega, Or.inr (Or.inl ⟨Nat.le_of_ble_eq_true rfl, Nat.le_of_ble_eq_true rfl⟩)⟩ (fun k => okC_0 k (Or.inr (Nat.le_of_ble_eq_true rfl)) (Nat.le_of_ble_eq_true rfl)) fun p l e R s m args below meth c D cA adK adV A Q ad cells slots C hc1 hs1 H locs lsA hP hD hS hv k => ?_
          obtain ⟨hx, hb, hr, hml, hown, hts, hlk, hin, hK, hA, hPS, hPR, hSC, hRf, hRl, -⟩ := C
          refine va_newa (atype := .long) (ty := .long) (N' := n.toNat) (a0 := (n.toNat, .inr (.inl fun _ => 0))) hx hb (hts _ (lwG_of (by decide +kernel) rfl)) rfl hK hP hD hS hA (fun cX => rfl) hn2 hn1 (by show n.toNat * 8 ≤ _; omega) hc1 hs1 hd (fun q cX H1 hK1 hP1 hD1 hS1 => ?_)
          have eC : cX = cA 1 := by
            have g1 := (hK1.2 (tyL cA).length (cX, .long) (by simp)).2
            have g2 := (hK.2 1 (cA 1, .long) rfl).2
            have g3 : s.vm.findClass ("[" ++ (FieldType.long).toString) = some cX := g1
            have g4 : s.vm.findClass ("[" ++ (FieldType.long).toString) = some (cA 1) := g2
            rw [g3] at g4
            exact Option.some.inj g4
          subst eC
          exact k q H1 hP1 hD1 hS1
      · cases hc
    · cases hs
  · cases hs
set_option maxHeartbeats 2000000 in
theorem s_anewarray {q : PST} (C : C0 X SC y) (hd : decode (mT y).2.1 pc = .ok (raw, ln)) (hz : (isz raw == 0 || isz raw == ln) = true) (hl : okL SC Sh.length ls) (hst : okS SC Sh.length st) (hSh : okSh Sh) (hM : okM Sh M) {k0 : Nat} (hc : chkI y raw (.anewarray k0) pc = true) (hs : stp X (.anewarray k0) ls st Sh M = some q) : SOK X SC y pc ln ls st Sh M q := by
  obtain ⟨hcl, hX0⟩ := C
  simp only [stp] at hs
  split at hs
  · rename_i n st
    split at hs
    · rename_i hn
      cases hs
      simp only [chkI] at hc
      split at hc
      · rename_i j
        obtain rfl := ln_of hz rfl (n := 3) rfl (by decide)
        obtain ⟨hn1, hn2⟩ := n_clamp hn.1 (by omega : n ≤ 1000000)
        simp only [Bool.or_eq_true, Bool.and_eq_true, beq_iff_eq] at hc
        rcases hc with ⟨rfl, hc⟩ | ⟨rfl, hc⟩
        · skip
          obtain ⟨-, hlink⟩ := ktb_in hcl hc
          refine sok_push (e0 := (104, n.toNat, List.replicate n.toNat none)) hl hst.tl hSh hM ⟨fun k r hk => ?_, by show n.toNat ≤ _; omega, Or.inr (Or.inr ⟨Nat.le_of_ble_eq_true rfl, Nat.le_of_ble_eq_true rfl, List.length_replicate⟩)⟩ (fun k => okC_0 k (Or.inr (Nat.le_of_ble_eq_true rfl)) (Nat.le_of_ble_eq_true rfl)) fun p l e R s m args below meth c D cA adK adV A Q ad cells slots C hc1 hs1 H locs lsA hP hD hS hv k => ?_
          · exfalso
            have hk2 : (List.replicate n.toNat (none : Option Nat)).getD k none = some r := hk
            rw [List.getD_eq_getElem?_getD, List.getElem?_replicate] at hk2
            split at hk2 <;> cases hk2
          · obtain ⟨hx, hb, hr, hml, hown, hts, hlk, hin, hK, hA, hPS, hPR, hSC, hRf, hRl, -⟩ := C
            refine va_newq (C := "FewEnds$Tray") (N' := n.toNat) hx hb hown (hts _ hlink) hPR.2.1 hK hP hD hS hA hn2 hn1 (by omega) hc1 hs1 hd (fun q cX H1 hK1 hP1 hD1 hS1 => ?_)
            have eC : cX = cA 4 := by
              obtain ⟨-, -, -, -, -, g1⟩ := (hK1.2 (tyL cA).length (cX, .object "FewEnds$Tray") (by simp)).2
              obtain ⟨-, -, -, -, -, g2⟩ := (hK.2 4 (cA 4, .object "FewEnds$Tray") rfl).2
              rw [g1] at g2
              exact Option.some.inj g2
            subst eC
            have e1 : ent cA (fun i => if i = Sh.length then q else ad i) (104, n.toNat, List.replicate n.toNat none) (fun _ => 0) = .inl (cA 4, n.toNat, .inr (.inr (.inr (.inr fun _ => none)))) := by
              rw [ent_q (by first | exact Or.inl rfl | exact Or.inr rfl)]
              refine congrArg Sum.inl ?_
              show (cA 4, n.toNat, _) = (cA 4, n.toNat, _)
              refine congrArg (fun w => (cA 4, n.toNat, Sum.inr (Sum.inr (Sum.inr (Sum.inr w))))) ?_
              funext j
              have e2 : (List.replicate n.toNat (none : Option Nat)).getD j none = none := by
                rw [List.getD_eq_getElem?_getD, List.getElem?_replicate]
                split <;> rfl
              show ((List.replicate n.toNat (none : Option Nat)).getD j none).map _ = none
              rw [e2]
              rfl
            refine k q H1 ?_ ?_ hS1
            · rw [e1]; exact hP1
            · rw [e1]; exact hD1
        · skip
          obtain ⟨-, hlink⟩ := ktb_in hcl hc
          refine sok_push (e0 := (105, n.toNat, List.replicate n.toNat none)) hl hst.tl hSh hM ⟨fun k r hk => ?_, by show n.toNat ≤ _; omega, Or.inr (Or.inr ⟨Nat.le_of_ble_eq_true rfl, Nat.le_of_ble_eq_true rfl, List.length_replicate⟩)⟩ (fun k => okC_0 k (Or.inr (Nat.le_of_ble_eq_true rfl)) (Nat.le_of_ble_eq_true rfl)) fun p l e R s m args below meth c D cA adK adV A Q ad cells slots C hc1 hs1 H locs lsA hP hD hS hv k => ?_
          · exfalso
            have hk2 : (List.replicate n.toNat (none : Option Nat)).getD k none = some r := hk
            rw [List.getD_eq_getElem?_getD, List.getElem?_replicate] at hk2
            split at hk2 <;> cases hk2
          · obtain ⟨hx, hb, hr, hml, hown, hts, hlk, hin, hK, hA, hPS, hPR, hSC, hRf, hRl, -⟩ := C
            refine va_newq (C := "FewEnds$Mark") (N' := n.toNat) hx hb hown (hts _ hlink) hPR.2.2 hK hP hD hS hA hn2 hn1 (by omega) hc1 hs1 hd (fun q cX H1 hK1 hP1 hD1 hS1 => ?_)
            have eC : cX = cA 5 := by
              obtain ⟨-, -, -, -, -, g1⟩ := (hK1.2 (tyL cA).length (cX, .object "FewEnds$Mark") (by simp)).2
              obtain ⟨-, -, -, -, -, g2⟩ := (hK.2 5 (cA 5, .object "FewEnds$Mark") rfl).2
              rw [g1] at g2
              exact Option.some.inj g2
            subst eC
            have e1 : ent cA (fun i => if i = Sh.length then q else ad i) (105, n.toNat, List.replicate n.toNat none) (fun _ => 0) = .inl (cA 5, n.toNat, .inr (.inr (.inr (.inr fun _ => none)))) := by
              rw [ent_q (by first | exact Or.inl rfl | exact Or.inr rfl)]
              refine congrArg Sum.inl ?_
              show (cA 5, n.toNat, _) = (cA 5, n.toNat, _)
              refine congrArg (fun w => (cA 5, n.toNat, Sum.inr (Sum.inr (Sum.inr (Sum.inr w))))) ?_
              funext j
              have e2 : (List.replicate n.toNat (none : Option Nat)).getD j none = none := by
                rw [List.getD_eq_getElem?_getD, List.getElem?_replicate]
                split <;> rfl
              show ((List.replicate n.toNat (none : Option Nat)).getD j none).map _ = none
              rw [e2]
              rfl
            refine k q H1 ?_ ?_ hS1
            · rw [e1]; exact hP1
            · rw [e1]; exact hD1
      · cases hc
    · cases hs
  · cases hs
theorem va_ldcwS {own tx : String} {index q : Nat} {H : Heap} {locs : List Loc} {lsA : Array Slot} {rest : List Value} {cc : ByteArray} (hexec : p.tables.exec = Jvm.exec) (hb : c.code = cc) (hown : s.vm.findClass own = some m.cls) (hZ : vk_R own index tx q s) (hdg : decode cc pc = .ok (.ldc_w index, 3))
    (k : W p l e R s m args below meth c H locs cells slots Q (F0 m (pc + 3) lsA (.ref q :: rest))) : W p l e R s m args below meth c H locs cells slots Q (F0 m pc lsA rest) := by
  intro T hT X0
  obtain ⟨t, a1, b1⟩ := k T hT X0
  refine ⟨t, ?_, b1⟩
  have hev : (Term.string own index).eval args s none [] s = some (.ref q) := hZ.2
  have hcs : (Cond.stringRef own index tx).before args s = true := hZ.1
  obtain ⟨k1, cf, i, a', hk, hcf, hcp, -, hr, hev'⟩ := Cond.stringRef_spec hown hcs
  cases hev.symm.trans hev'
  obtain ⟨k', hk', he⟩ := X0.warmed.alike.2.2 _ _ hk
  have hr' : k'.resolved[index]? = some (some (.string q)) := by
    rcases X0.warmed.entry hk hk' index with h | ⟨h, -⟩
    · rw [h]; exact hr
    · rw [hr] at h; cases h
  have hdg2 : decode c.code pc = .ok (.ldc_w index, 3) := by rw [hb]; exact hdg
  jvm_step X0.here [hexec, hdg2, ldc_w.wp_string (e := e) (s := T) (f := F0 m pc lsA rest) X0.here.top hk' (by rw [he]; exact hcf) hcp hr']
  exact a1
theorem stb_ok : (List.range 16).all (fun o => (stb o).all (fun q => decide (q.2 < 21) && decide ((strl.getD q.2 ("", 0, "")).1 = cid o) && decide ((strl.getD q.2 ("", 0, "")).2.1 = q.1))) = true := by decide +kernel
theorem stb_in {o n k : Nat} (ho : o < 16) (h : (stb o).any (fun q => decide (q.1 = n) && decide (q.2 = k)) = true) : k < 21 ∧ (strl.getD k ("", 0, "")).1 = cid o ∧ (strl.getD k ("", 0, "")).2.1 = n := by
  obtain ⟨q, hq, h2⟩ := any_eq h
  simp only [Bool.and_eq_true, decide_eq_true_eq] at h2
  have h3 := List.all_eq_true.mp (List.all_eq_true.mp stb_ok o (List.mem_range.mpr ho)) q hq
  simp only [Bool.and_eq_true, decide_eq_true_eq] at h3
  obtain ⟨rfl, rfl⟩ := h2
  exact ⟨h3.1.1, h3.1.2, h3.2⟩
set_option maxHeartbeats 2000000 in
theorem s_ldc {q : PST} (C : C0 X SC y) (hd : decode (mT y).2.1 pc = .ok (raw, ln)) (hz : (isz raw == 0 || isz raw == ln) = true) (hl : okL SC Sh.length ls) (hst : okS SC Sh.length st) (hSh : okSh Sh) (hM : okM Sh M) {k0 : Nat} (hc : chkI y raw (.ldc k0) pc = true) (hs : stp X (.ldc k0) ls st Sh M = some q) : SOK X SC y pc ln ls st Sh M q := by
  obtain ⟨hcl, hX0⟩ := C
  simp only [stp] at hs
  cases hs
  simp only [chkI] at hc
  split at hc
  · rename_i n
    obtain ⟨h1, h2, h3⟩ := stb_in hcl hc
    obtain rfl := ln_of hz rfl (n := 2) rfl (by decide)
    refine sok_same hl (okS.cons (Or.inl h1) hst) hSh hM rfl fun p l e R s m args below meth c D cA adK adV A Q ad cells slots C k H locs lsA hP hD hS hv => ?_
    obtain ⟨hx, hb, hr, hml, hown, hts, hlk, hin, hK, hA, hPS, hPR, hSC, hRf, hRl, -⟩ := C
    have h4 := hPR.1 k0 h1
    rw [h2, h3] at h4
    exact va_ldcS hx hb hown h4 hd (k H locs lsA hP hD hS hv)
  · rename_i n
    obtain ⟨h1, h2, h3⟩ := stb_in hcl hc
    obtain rfl := ln_of hz rfl (n := 3) rfl (by decide)
    refine sok_same hl (okS.cons (Or.inl h1) hst) hSh hM rfl fun p l e R s m args below meth c D cA adK adV A Q ad cells slots C k H locs lsA hP hD hS hv => ?_
    obtain ⟨hx, hb, hr, hml, hown, hts, hlk, hin, hK, hA, hPS, hPR, hSC, hRf, hRl, -⟩ := C
    have h4 := hPR.1 k0 h1
    rw [h2, h3] at h4
    exact va_ldcwS hx hb hown h4 hd (k H locs lsA hP hD hS hv)
  · cases hc
theorem cpy_at {a0 d0 : Nat} {sp dp n : Int} {i : Int} : cpy M a0 sp d0 dp n d0 i = if dp ≤ i ∧ i < dp + n then M a0 (sp + (i - dp)) else M d0 i := by simp [cpy]
theorem cpy_ne {a0 d0 b : Nat} {sp dp n : Int} (h : b ≠ d0) : cpy M a0 sp d0 dp n b = M b := by funext i; simp [cpy, h]
theorem okM_cpy {a0 d0 : Nat} {sp dp n : Int} {es ed : SE} (hM : okM Sh M) (h1 : Sh[a0]? = some es) (h2 : Sh[d0]? = some ed) (hk : es.1 = ed.1) (hk2 : 100 ≤ ed.1) (hs0 : 0 ≤ sp) (hd0 : 0 ≤ dp) (hs1 : sp + n ≤ es.2.1) (hd1 : dp + n ≤ ed.2.1) : okM Sh (cpy M a0 sp d0 dp n) := by
  intro b e' hb k hk3
  by_cases h : b = d0
  · subst h
    cases h2.symm.trans hb
    rw [cpy_at]
    split
    · rename_i h3
      have h4 := hM a0 es h1 (sp + ((k : Int) - dp)).toNat (by omega)
      rw [Int.toNat_of_nonneg (by omega), hk] at h4
      unfold okC at h4 ⊢
      rw [if_neg (by omega)] at h4 ⊢
      exact h4
    · exact hM b ed h2 k hk3
  · rw [cpy_ne h]; exact hM b e' hb k hk3
theorem nfw : nativeFrameWords "java/lang/System" "arraycopy" 5 + 11 ≤ 30 := by decide
set_option maxHeartbeats 2000000 in
theorem s_copy {q : PST} (C : C0 X SC y) (hd : decode (mT y).2.1 pc = .ok (raw, ln)) (hz : (isz raw == 0 || isz raw == ln) = true) (hl : okL SC Sh.length ls) (hst : okS SC Sh.length st) (hSh : okSh Sh) (hM : okM Sh M) (hc : chkI y raw (.invokedynamic 0) pc = true) (hs : stp X (.invokedynamic 0) ls st Sh M = some q) : SOK X SC y pc ln ls st Sh M q := by
  obtain ⟨hcl, hX0⟩ := C
  simp only [stp] at hs
  split at hs
  · rename_i n dp d0 sp a0
    split at hs
    · rename_i hk
      cases hs
      simp only [chkI] at hc
      split at hc
      · rename_i n0
        simp only [Bool.and_eq_true, decide_eq_true_eq, beq_iff_eq] at hc
        obtain ⟨⟨-, hdp⟩, hc⟩ := hc
        have hlk2 : Cond.methodLink (cid (mcl y)) n0 arraycopyName ∈ lwG := itb_in hcl hc
        have wnat : Cond.native arraycopyName ∈ lwG := lwG_of (by decide +kernel) rfl
        have wsta : Cond.static arraycopyName ∈ lwG := lwG_of (by decide +kernel) rfl
        have wini : Cond.initialized "java/lang/System" ∈ lwG := lwG_of (by decide +kernel) rfl
        obtain rfl := ln_of hz rfl (n := 3) rfl (by decide)
        obtain ⟨es, s1, s2, s3, s4⟩ := knd_some (k := knd Sh a0) rfl (by omega)
        obtain ⟨ed, d1, d2, d3, d4⟩ := knd_some (k := knd Sh d0) rfl (by omega)
        have ms := (hSh a0 es s1).2.1
        have md := (hSh d0 ed d1).2.1
        have hq := hk.2.2.2.2
        rw [s3, d3] at hq
        have z1 := hk.2.2.1
        have z2 := hk.2.2.2.1
        obtain ⟨c1, c2⟩ := n_clamp z1 (by omega : sp ≤ 1000000)
        obtain ⟨c3, c4⟩ := n_clamp z2 (by omega : dp ≤ 1000000)
        obtain ⟨c5, c6⟩ := n_clamp hq.1 (by omega : n ≤ 1000000)
        rcases hk.2.1 with hkd | hkd
        · skip
          have g2d : ed.1 = 100 := by rw [d2]; exact hkd
          have g2s : es.1 = 100 := by rw [s2, hk.1]; exact hkd
          refine sok_same hl hst.tl.tl.tl.tl.tl hSh (okM_cpy hM s1 d1 (by omega) (by omega) hk.2.2.1 hk.2.2.2.1 (by rw [← s3]; exact hk.2.2.2.2.2.1) (by rw [← d3]; exact hk.2.2.2.2.2.2)) rfl fun p l e R s m args below meth c D cA adK adV A Q ad cells slots C k H locs lsA hP hD hS hv => ?_
          obtain ⟨hx, hb, hr, hml, hown, hts, hlk, hin, hK, hA, hPS, hPR, hSC, hRf, hRl, -⟩ := C
          have hes := wd_get (cA := cA) (ad := ad) (M := M) s1
          rw [ent_i g2s] at hes
          have hed := wd_get (cA := cA) (ad := ad) (M := M) d1
          rw [ent_i g2d] at hed
          refine va_copyi (ty := .int) hx hb (hml.trans hv.1.symm) hown (hts _ hlk2) (hts _ wnat) (hts _ wsta) (hts _ wini) hK hP hD hS a0 d0 0 0 hes hed rfl rfl rfl c2 c4 c6 (by rw [c1, c5]; omega) (by rw [c3, c5]; omega) (fun i hi => rfl) (by omega) (by have := nfw; show 0 + _ ≤ _; omega) hd (fun H1 locs1 hP1 hD1 hS1 => ?_)
          have e1 : (wd cA ad Sh M).set d0 (ad d0, .inl (cA 0, ed.2.1, .inl (va_cpy (fun j => Int32.ofInt (M a0 j)) (fun j => Int32.ofInt (M d0 j)) (Int32.ofInt sp).toNatClampNeg (Int32.ofInt dp).toNatClampNeg (Int32.ofInt n).toNatClampNeg))) = wd cA ad Sh (cpy M a0 sp d0 dp n) := by
            rw [← wd_set (M := M) (M' := cpy M a0 sp d0 dp n) rfl d4 d1 (fun _ _ => rfl) (fun i hi => cpy_ne hi), ent_i g2d]
            congr 5
            refine congrArg Sum.inl ?_
            funext q
            rw [c1, c3, c5]
            unfold va_cpy
            simp only [cpy_at]
            by_cases h : dp.toNat ≤ q ∧ q < dp.toNat + n.toNat
            · rw [if_pos h, if_pos (by omega)]
              congr 2
              omega
            · rw [if_neg h, if_neg (by omega)]
          rw [e1] at hP1 hD1
          exact k H1 locs1 lsA hP1 hD1 hS1 hv
        · skip
          have g2d : ed.1 = 101 := by rw [d2]; exact hkd
          have g2s : es.1 = 101 := by rw [s2, hk.1]; exact hkd
          refine sok_same hl hst.tl.tl.tl.tl.tl hSh (okM_cpy hM s1 d1 (by omega) (by omega) hk.2.2.1 hk.2.2.2.1 (by rw [← s3]; exact hk.2.2.2.2.2.1) (by rw [← d3]; exact hk.2.2.2.2.2.2)) rfl fun p l e R s m args below meth c D cA adK adV A Q ad cells slots C k H locs lsA hP hD hS hv => ?_
          obtain ⟨hx, hb, hr, hml, hown, hts, hlk, hin, hK, hA, hPS, hPR, hSC, hRf, hRl, -⟩ := C
          have hes := wd_get (cA := cA) (ad := ad) (M := M) s1
          rw [ent_l g2s] at hes
          have hed := wd_get (cA := cA) (ad := ad) (M := M) d1
          rw [ent_l g2d] at hed
          refine va_copyl (ty := .long) hx hb (hml.trans hv.1.symm) hown (hts _ hlk2) (hts _ wnat) (hts _ wsta) (hts _ wini) hK hP hD hS a0 d0 1 1 hes hed rfl rfl rfl c2 c4 c6 (by rw [c1, c5]; omega) (by rw [c3, c5]; omega) (fun i hi => rfl) (by omega) (by have := nfw; show 0 + _ ≤ _; omega) hd (fun H1 locs1 hP1 hD1 hS1 => ?_)
          have e1 : (wd cA ad Sh M).set d0 (ad d0, .inl (cA 1, ed.2.1, .inr (.inl (va_cpy (fun j => Int64.ofInt (M a0 j)) (fun j => Int64.ofInt (M d0 j)) (Int32.ofInt sp).toNatClampNeg (Int32.ofInt dp).toNatClampNeg (Int32.ofInt n).toNatClampNeg)))) = wd cA ad Sh (cpy M a0 sp d0 dp n) := by
            rw [← wd_set (M := M) (M' := cpy M a0 sp d0 dp n) rfl d4 d1 (fun _ _ => rfl) (fun i hi => cpy_ne hi), ent_l g2d]
            congr 6
            refine congrArg Sum.inl ?_
            funext q
            rw [c1, c3, c5]
            unfold va_cpy
            simp only [cpy_at]
            by_cases h : dp.toNat ≤ q ∧ q < dp.toNat + n.toNat
            · rw [if_pos h, if_pos (by omega)]
              congr 2
              omega
            · rw [if_neg h, if_neg (by omega)]
          rw [e1] at hP1 hD1
          exact k H1 locs1 lsA hP1 hD1 hS1 hv
      · simp at hc
      · simp at hc
      · cases hc
    · cases hs
  · cases hs
end ALLO
