/-! THE METHODS' ENTRIES, their blocks (by wip/tools2/gen_ent.py). -/
theorem rcv_v {k a ci : Nat} {l : List PV} {Sh : List SE} (h0 : (mwd k).1 = 0) (h1 : mcl k = ci) (h : knd Sh a = ci) : rcv k (.inr (.inr (.inl (some a))) :: l) Sh = true := by
  unfold rcv
  rw [h0]
  show (knd Sh a == mcl k) = true
  rw [h, h1]
  exact beq_self_eq_true ci
theorem rcv_i {k a : Nat} {l : List PV} {Sh : List SE} (h0 : (mwd k).1 = 2) : rcv k (.inr (.inr (.inl (some a))) :: l) Sh = true := by
  unfold rcv
  rw [h0]
  rfl
theorem rcv_s {k : Nat} {l : List PV} {Sh : List SE} (h0 : (mwd k).1 = 1) : rcv k l Sh = true := by
  unfold rcv
  rw [h0]
  rfl
theorem mkls_of {k n : Nat} {args : List PV} (h : (mT k).2.2.1 = n) : mkls k args = mkl args ++ List.replicate (n - (mkl args).length) none := by unfold mkls; rw [h]
section ENT
variable {X : Int → Int} {Sh : List SE} {M : Mem} {a : Nat}
theorem F_0 : (mT 0).2.2.1 = 2 ∧ (mwd 0).1 = 2 ∧ mcl 0 = 0 := by decide +kernel
theorem G_0 : cdl.getD 0 [] = cd_0 := rfl
theorem J_0_0 : jmp 0 0 = k_0_0 := by unfold jmp; rw [G_0]; rfl
theorem J_0_175 : jmp 0 175 = k_0_175 := by unfold jmp; rw [G_0]; rfl
theorem J_0_199 : jmp 0 199 = k_0_199 := by unfold jmp; rw [G_0]; rfl
theorem J_0_201 : jmp 0 201 = k_0_201 := by unfold jmp; rw [G_0]; rfl
theorem J_0_225 : jmp 0 225 = k_0_225 := by unfold jmp; rw [G_0]; rfl
/-- FewEnds.<init>()V -/
theorem E_0 : evc X 0 [vR (some a)] Sh M = ev X 0 k_0_0 [some (vR (some a)), none] [] Sh M := by
  rw [evc_go (by rw [F_0.1]; show 1 ≤ 2; omega) (rcv_i F_0.2.1), mkls_of F_0.1, J_0_0]
  rfl
theorem F_2 : (mT 2).2.2.1 = 1 ∧ (mwd 2).1 = 2 ∧ mcl 2 = 1 := by decide +kernel
theorem G_2 : cdl.getD 2 [] = cd_2 := rfl
theorem J_2_0 : jmp 2 0 = k_2_0 := by unfold jmp; rw [G_2]; rfl
/-- FewEnds$Tape.<init>()V -/
theorem E_2 : evc X 2 [vR (some a)] Sh M = ev X 2 k_2_0 [some (vR (some a))] [] Sh M := by
  rw [evc_go (by rw [F_2.1]; show 1 ≤ 1; omega) (rcv_i F_2.2.1), mkls_of F_2.1, J_2_0]
  rfl
theorem F_3 : (mT 3).2.2.1 = 1 ∧ (mwd 3).1 = 2 ∧ mcl 3 = 2 := by decide +kernel
theorem G_3 : cdl.getD 3 [] = cd_3 := rfl
theorem J_3_0 : jmp 3 0 = k_3_0 := by unfold jmp; rw [G_3]; rfl
/-- FewEnds$Chart.<init>()V -/
theorem E_3 : evc X 3 [vR (some a)] Sh M = ev X 3 k_3_0 [some (vR (some a))] [] Sh M := by
  rw [evc_go (by rw [F_3.1]; show 1 ≤ 1; omega) (rcv_i F_3.2.1), mkls_of F_3.1, J_3_0]
  rfl
theorem F_4 : (mT 4).2.2.1 = 1 ∧ (mwd 4).1 = 0 ∧ mcl 4 = 2 := by decide +kernel
theorem G_4 : cdl.getD 4 [] = cd_4 := rfl
theorem J_4_0 : jmp 4 0 = k_4_0 := by unfold jmp; rw [G_4]; rfl
/-- FewEnds$Chart.empty()V -/
theorem E_4 (h : knd Sh a = 2) : evc X 4 [vR (some a)] Sh M = ev X 4 k_4_0 [some (vR (some a))] [] Sh M := by
  rw [evc_go (by rw [F_4.1]; show 1 ≤ 1; omega) (rcv_v F_4.2.1 F_4.2.2 h), mkls_of F_4.1, J_4_0]
  rfl
theorem F_5 : (mT 5).2.2.1 = 4 ∧ (mwd 5).1 = 1 ∧ mcl 5 = 14 := by decide +kernel
theorem G_5 : cdl.getD 5 [] = cd_5 := rfl
theorem J_5_0 : jmp 5 0 = k_5_0 := by unfold jmp; rw [G_5]; rfl
theorem J_5_5 : jmp 5 5 = k_5_5 := by unfold jmp; rw [G_5]; rfl
theorem J_5_20 : jmp 5 20 = k_5_20 := by unfold jmp; rw [G_5]; rfl
/-- java/util/Arrays.fill([II)V -/
theorem E_5 {x1 : Option Nat} {x2 : Int} : evc X 5 [vR x1, vI x2] Sh M = ev X 5 k_5_0 [some (vR x1), some (vI x2), none, none] [] Sh M := by
  rw [evc_go (by rw [F_5.1]; show 2 ≤ 4; omega) (rcv_s F_5.2.1), mkls_of F_5.1, J_5_0]
  rfl
theorem F_6 : (mT 6).2.2.1 = 1 ∧ (mwd 6).1 = 2 ∧ mcl 6 = 3 := by decide +kernel
theorem G_6 : cdl.getD 6 [] = cd_6 := rfl
theorem J_6_0 : jmp 6 0 = k_6_0 := by unfold jmp; rw [G_6]; rfl
/-- FewEnds$Plan.<init>()V -/
theorem E_6 : evc X 6 [vR (some a)] Sh M = ev X 6 k_6_0 [some (vR (some a))] [] Sh M := by
  rw [evc_go (by rw [F_6.1]; show 1 ≤ 1; omega) (rcv_i F_6.2.1), mkls_of F_6.1, J_6_0]
  rfl
theorem F_7 : (mT 7).2.2.1 = 1 ∧ (mwd 7).1 = 0 ∧ mcl 7 = 3 := by decide +kernel
theorem G_7 : cdl.getD 7 [] = cd_7 := rfl
theorem J_7_0 : jmp 7 0 = k_7_0 := by unfold jmp; rw [G_7]; rfl
/-- FewEnds$Plan.empty()V -/
theorem E_7 (h : knd Sh a = 3) : evc X 7 [vR (some a)] Sh M = ev X 7 k_7_0 [some (vR (some a))] [] Sh M := by
  rw [evc_go (by rw [F_7.1]; show 1 ≤ 1; omega) (rcv_v F_7.2.1 F_7.2.2 h), mkls_of F_7.1, J_7_0]
  rfl
theorem F_8 : (mT 8).2.2.1 = 1 ∧ (mwd 8).1 = 2 ∧ mcl 8 = 4 := by decide +kernel
theorem G_8 : cdl.getD 8 [] = cd_8 := rfl
theorem J_8_0 : jmp 8 0 = k_8_0 := by unfold jmp; rw [G_8]; rfl
/-- FewEnds$Directions.<init>()V -/
theorem E_8 : evc X 8 [vR (some a)] Sh M = ev X 8 k_8_0 [some (vR (some a))] [] Sh M := by
  rw [evc_go (by rw [F_8.1]; show 1 ≤ 1; omega) (rcv_i F_8.2.1), mkls_of F_8.1, J_8_0]
  rfl
theorem F_9 : (mT 9).2.2.1 = 2 ∧ (mwd 9).1 = 2 ∧ mcl 9 = 5 := by decide +kernel
theorem G_9 : cdl.getD 9 [] = cd_9 := rfl
theorem J_9_0 : jmp 9 0 = k_9_0 := by unfold jmp; rw [G_9]; rfl
/-- FewEnds$ChartReader.<init>(LFewEnds$Tape;)V -/
theorem E_9 {x1 : Option Nat} : evc X 9 [vR (some a), vR x1] Sh M = ev X 9 k_9_0 [some (vR (some a)), some (vR x1)] [] Sh M := by
  rw [evc_go (by rw [F_9.1]; show 2 ≤ 2; omega) (rcv_i F_9.2.1), mkls_of F_9.1, J_9_0]
  rfl
theorem F_10 : (mT 10).2.2.1 = 2 ∧ (mwd 10).1 = 2 ∧ mcl 10 = 6 := by decide +kernel
theorem G_10 : cdl.getD 10 [] = cd_10 := rfl
theorem J_10_0 : jmp 10 0 = k_10_0 := by unfold jmp; rw [G_10]; rfl
/-- FewEnds$DirectionsReader.<init>(LFewEnds$Tape;)V -/
theorem E_10 {x1 : Option Nat} : evc X 10 [vR (some a), vR x1] Sh M = ev X 10 k_10_0 [some (vR (some a)), some (vR x1)] [] Sh M := by
  rw [evc_go (by rw [F_10.1]; show 2 ≤ 2; omega) (rcv_i F_10.2.1), mkls_of F_10.1, J_10_0]
  rfl
theorem F_11 : (mT 11).2.2.1 = 1 ∧ (mwd 11).1 = 2 ∧ mcl 11 = 7 := by decide +kernel
theorem G_11 : cdl.getD 11 [] = cd_11 := rfl
theorem J_11_0 : jmp 11 0 = k_11_0 := by unfold jmp; rw [G_11]; rfl
/-- FewEnds$Pairing.<init>()V -/
theorem E_11 : evc X 11 [vR (some a)] Sh M = ev X 11 k_11_0 [some (vR (some a))] [] Sh M := by
  rw [evc_go (by rw [F_11.1]; show 1 ≤ 1; omega) (rcv_i F_11.2.1), mkls_of F_11.1, J_11_0]
  rfl
theorem F_12 : (mT 12).2.2.1 = 2 ∧ (mwd 12).1 = 2 ∧ mcl 12 = 8 := by decide +kernel
theorem G_12 : cdl.getD 12 [] = cd_12 := rfl
theorem J_12_0 : jmp 12 0 = k_12_0 := by unfold jmp; rw [G_12]; rfl
/-- FewEnds$Alterations.<init>(LFewEnds$Pairing;)V -/
theorem E_12 {x1 : Option Nat} : evc X 12 [vR (some a), vR x1] Sh M = ev X 12 k_12_0 [some (vR (some a)), some (vR x1)] [] Sh M := by
  rw [evc_go (by rw [F_12.1]; show 2 ≤ 2; omega) (rcv_i F_12.2.1), mkls_of F_12.1, J_12_0]
  rfl
theorem F_13 : (mT 13).2.2.1 = 1 ∧ (mwd 13).1 = 2 ∧ mcl 13 = 9 := by decide +kernel
theorem G_13 : cdl.getD 13 [] = cd_13 := rfl
theorem J_13_0 : jmp 13 0 = k_13_0 := by unfold jmp; rw [G_13]; rfl
/-- FewEnds$Follower.<init>()V -/
theorem E_13 : evc X 13 [vR (some a)] Sh M = ev X 13 k_13_0 [some (vR (some a))] [] Sh M := by
  rw [evc_go (by rw [F_13.1]; show 1 ≤ 1; omega) (rcv_i F_13.2.1), mkls_of F_13.1, J_13_0]
  rfl
theorem F_14 : (mT 14).2.2.1 = 1 ∧ (mwd 14).1 = 2 ∧ mcl 14 = 10 := by decide +kernel
theorem G_14 : cdl.getD 14 [] = cd_14 := rfl
theorem J_14_0 : jmp 14 0 = k_14_0 := by unfold jmp; rw [G_14]; rfl
/-- FewEnds$Tray.<init>()V -/
theorem E_14 : evc X 14 [vR (some a)] Sh M = ev X 14 k_14_0 [some (vR (some a))] [] Sh M := by
  rw [evc_go (by rw [F_14.1]; show 1 ≤ 1; omega) (rcv_i F_14.2.1), mkls_of F_14.1, J_14_0]
  rfl
theorem F_15 : (mT 15).2.2.1 = 1 ∧ (mwd 15).1 = 2 ∧ mcl 15 = 11 := by decide +kernel
theorem G_15 : cdl.getD 15 [] = cd_15 := rfl
theorem J_15_0 : jmp 15 0 = k_15_0 := by unfold jmp; rw [G_15]; rfl
/-- FewEnds$Mark.<init>()V -/
theorem E_15 : evc X 15 [vR (some a)] Sh M = ev X 15 k_15_0 [some (vR (some a))] [] Sh M := by
  rw [evc_go (by rw [F_15.1]; show 1 ≤ 1; omega) (rcv_i F_15.2.1), mkls_of F_15.1, J_15_0]
  rfl
theorem F_16 : (mT 16).2.2.1 = 1 ∧ (mwd 16).1 = 0 ∧ mcl 16 = 0 := by decide +kernel
theorem G_16 : cdl.getD 16 [] = cd_16 := rfl
theorem J_16_0 : jmp 16 0 = k_16_0 := by unfold jmp; rw [G_16]; rfl
/-- FewEnds.status()I -/
theorem E_16 (h : knd Sh a = 0) : evc X 16 [vR (some a)] Sh M = ev X 16 k_16_0 [some (vR (some a))] [] Sh M := by
  rw [evc_go (by rw [F_16.1]; show 1 ≤ 1; omega) (rcv_v F_16.2.1 F_16.2.2 h), mkls_of F_16.1, J_16_0]
  rfl
theorem F_17 : (mT 17).2.2.1 = 1 ∧ (mwd 17).1 = 0 ∧ mcl 17 = 0 := by decide +kernel
theorem G_17 : cdl.getD 17 [] = cd_17 := rfl
theorem J_17_0 : jmp 17 0 = k_17_0 := by unfold jmp; rw [G_17]; rfl
/-- FewEnds.top()J -/
theorem E_17 (h : knd Sh a = 0) : evc X 17 [vR (some a)] Sh M = ev X 17 k_17_0 [some (vR (some a))] [] Sh M := by
  rw [evc_go (by rw [F_17.1]; show 1 ≤ 1; omega) (rcv_v F_17.2.1 F_17.2.2 h), mkls_of F_17.1, J_17_0]
  rfl
theorem F_18 : (mT 18).2.2.1 = 1 ∧ (mwd 18).1 = 0 ∧ mcl 18 = 0 := by decide +kernel
theorem G_18 : cdl.getD 18 [] = cd_18 := rfl
theorem J_18_0 : jmp 18 0 = k_18_0 := by unfold jmp; rw [G_18]; rfl
/-- FewEnds.bottom()J -/
theorem E_18 (h : knd Sh a = 0) : evc X 18 [vR (some a)] Sh M = ev X 18 k_18_0 [some (vR (some a))] [] Sh M := by
  rw [evc_go (by rw [F_18.1]; show 1 ≤ 1; omega) (rcv_v F_18.2.1 F_18.2.2 h), mkls_of F_18.1, J_18_0]
  rfl
theorem F_19 : (mT 19).2.2.1 = 5 ∧ (mwd 19).1 = 0 ∧ mcl 19 = 0 := by decide +kernel
theorem G_19 : cdl.getD 19 [] = cd_19 := rfl
theorem J_19_0 : jmp 19 0 = k_19_0 := by unfold jmp; rw [G_19]; rfl
theorem J_19_31 : jmp 19 31 = k_19_31 := by unfold jmp; rw [G_19]; rfl
theorem J_19_37 : jmp 19 37 = k_19_37 := by unfold jmp; rw [G_19]; rfl
/-- FewEnds.tray(III)Z -/
theorem E_19 {x1 : Int} {x2 : Int} {x3 : Int} (h : knd Sh a = 0) : evc X 19 [vR (some a), vI x1, vI x2, vI x3] Sh M = ev X 19 k_19_0 [some (vR (some a)), some (vI x1), some (vI x2), some (vI x3), none] [] Sh M := by
  rw [evc_go (by rw [F_19.1]; show 4 ≤ 5; omega) (rcv_v F_19.2.1 F_19.2.2 h), mkls_of F_19.1, J_19_0]
  rfl
theorem F_20 : (mT 20).2.2.1 = 2 ∧ (mwd 20).1 = 0 ∧ mcl 20 = 0 := by decide +kernel
theorem G_20 : cdl.getD 20 [] = cd_20 := rfl
theorem J_20_0 : jmp 20 0 = k_20_0 := by unfold jmp; rw [G_20]; rfl
theorem J_20_9 : jmp 20 9 = k_20_9 := by unfold jmp; rw [G_20]; rfl
theorem J_20_13 : jmp 20 13 = k_20_13 := by unfold jmp; rw [G_20]; rfl
theorem J_20_19 : jmp 20 19 = k_20_19 := by unfold jmp; rw [G_20]; rfl
/-- FewEnds.trayAt(I)LFewEnds$Tray; -/
theorem E_20 {x1 : Int} (h : knd Sh a = 0) : evc X 20 [vR (some a), vI x1] Sh M = ev X 20 k_20_0 [some (vR (some a)), some (vI x1)] [] Sh M := by
  rw [evc_go (by rw [F_20.1]; show 2 ≤ 2; omega) (rcv_v F_20.2.1 F_20.2.2 h), mkls_of F_20.1, J_20_0]
  rfl
theorem F_21 : (mT 21).2.2.1 = 2 ∧ (mwd 21).1 = 0 ∧ mcl 21 = 0 := by decide +kernel
theorem G_21 : cdl.getD 21 [] = cd_21 := rfl
theorem J_21_0 : jmp 21 0 = k_21_0 := by unfold jmp; rw [G_21]; rfl
/-- FewEnds.refuse(I)Z -/
theorem E_21 {x1 : Int} (h : knd Sh a = 0) : evc X 21 [vR (some a), vI x1] Sh M = ev X 21 k_21_0 [some (vR (some a)), some (vI x1)] [] Sh M := by
  rw [evc_go (by rw [F_21.1]; show 2 ≤ 2; omega) (rcv_v F_21.2.1 F_21.2.2 h), mkls_of F_21.1, J_21_0]
  rfl
theorem F_22 : (mT 22).2.2.1 = 3 ∧ (mwd 22).1 = 0 ∧ mcl 22 = 10 := by decide +kernel
theorem G_22 : cdl.getD 22 [] = cd_22 := rfl
theorem J_22_0 : jmp 22 0 = k_22_0 := by unfold jmp; rw [G_22]; rfl
/-- FewEnds$Tray.lay(II)V -/
theorem E_22 {x1 : Int} {x2 : Int} (h : knd Sh a = 10) : evc X 22 [vR (some a), vI x1, vI x2] Sh M = ev X 22 k_22_0 [some (vR (some a)), some (vI x1), some (vI x2)] [] Sh M := by
  rw [evc_go (by rw [F_22.1]; show 3 ≤ 3; omega) (rcv_v F_22.2.1 F_22.2.2 h), mkls_of F_22.1, J_22_0]
  rfl
theorem F_23 : (mT 23).2.2.1 = 5 ∧ (mwd 23).1 = 1 ∧ mcl 23 = 14 := by decide +kernel
theorem G_23 : cdl.getD 23 [] = cd_23 := rfl
theorem J_23_0 : jmp 23 0 = k_23_0 := by unfold jmp; rw [G_23]; rfl
theorem J_23_6 : jmp 23 6 = k_23_6 := by unfold jmp; rw [G_23]; rfl
theorem J_23_22 : jmp 23 22 = k_23_22 := by unfold jmp; rw [G_23]; rfl
/-- java/util/Arrays.fill([JJ)V -/
theorem E_23 {x1 : Option Nat} {x2 : Int} : evc X 23 [vR x1, vL x2] Sh M = ev X 23 k_23_0 [some (vR x1), some (vL x2), none, none, none] [] Sh M := by
  rw [evc_go (by rw [F_23.1]; show 3 ≤ 5; omega) (rcv_s F_23.2.1), mkls_of F_23.1, J_23_0]
  rfl
theorem F_24 : (mT 24).2.2.1 = 1 ∧ (mwd 24).1 = 0 ∧ mcl 24 = 0 := by decide +kernel
theorem G_24 : cdl.getD 24 [] = cd_24 := rfl
theorem J_24_0 : jmp 24 0 = k_24_0 := by unfold jmp; rw [G_24]; rfl
/-- FewEnds.agree()Z -/
theorem E_24 (h : knd Sh a = 0) : evc X 24 [vR (some a)] Sh M = ev X 24 k_24_0 [some (vR (some a))] [] Sh M := by
  rw [evc_go (by rw [F_24.1]; show 1 ≤ 1; omega) (rcv_v F_24.2.1 F_24.2.2 h), mkls_of F_24.1, J_24_0]
  rfl
theorem F_25 : (mT 25).2.2.1 = 6 ∧ (mwd 25).1 = 0 ∧ mcl 25 = 0 := by decide +kernel
theorem G_25 : cdl.getD 25 [] = cd_25 := rfl
theorem J_25_0 : jmp 25 0 = k_25_0 := by unfold jmp; rw [G_25]; rfl
theorem J_25_18 : jmp 25 18 = k_25_18 := by unfold jmp; rw [G_25]; rfl
theorem J_25_32 : jmp 25 32 = k_25_32 := by unfold jmp; rw [G_25]; rfl
theorem J_25_48 : jmp 25 48 = k_25_48 := by unfold jmp; rw [G_25]; rfl
/-- FewEnds.write(IIJ)Z -/
theorem E_25 {x1 : Int} {x2 : Int} {x3 : Int} (h : knd Sh a = 0) : evc X 25 [vR (some a), vI x1, vI x2, vL x3] Sh M = ev X 25 k_25_0 [some (vR (some a)), some (vI x1), some (vI x2), some (vL x3), none, none] [] Sh M := by
  rw [evc_go (by rw [F_25.1]; show 5 ≤ 6; omega) (rcv_v F_25.2.1 F_25.2.2 h), mkls_of F_25.1, J_25_0]
  rfl
theorem F_26 : (mT 26).2.2.1 = 1 ∧ (mwd 26).1 = 0 ∧ mcl 26 = 10 := by decide +kernel
theorem G_26 : cdl.getD 26 [] = cd_26 := rfl
theorem J_26_0 : jmp 26 0 = k_26_0 := by unfold jmp; rw [G_26]; rfl
theorem J_26_12 : jmp 26 12 = k_26_12 := by unfold jmp; rw [G_26]; rfl
theorem J_26_13 : jmp 26 13 = k_26_13 := by unfold jmp; rw [G_26]; rfl
/-- FewEnds$Tray.isMissing()Z -/
theorem E_26 (h : knd Sh a = 10) : evc X 26 [vR (some a)] Sh M = ev X 26 k_26_0 [some (vR (some a))] [] Sh M := by
  rw [evc_go (by rw [F_26.1]; show 1 ≤ 1; omega) (rcv_v F_26.2.1 F_26.2.2 h), mkls_of F_26.1, J_26_0]
  rfl
theorem F_27 : (mT 27).2.2.1 = 3 ∧ (mwd 27).1 = 0 ∧ mcl 27 = 10 := by decide +kernel
theorem G_27 : cdl.getD 27 [] = cd_27 := rfl
theorem J_27_0 : jmp 27 0 = k_27_0 := by unfold jmp; rw [G_27]; rfl
theorem J_27_30 : jmp 27 30 = k_27_30 := by unfold jmp; rw [G_27]; rfl
theorem J_27_31 : jmp 27 31 = k_27_31 := by unfold jmp; rw [G_27]; rfl
/-- FewEnds$Tray.has(II)Z -/
theorem E_27 {x1 : Int} {x2 : Int} (h : knd Sh a = 10) : evc X 27 [vR (some a), vI x1, vI x2] Sh M = ev X 27 k_27_0 [some (vR (some a)), some (vI x1), some (vI x2)] [] Sh M := by
  rw [evc_go (by rw [F_27.1]; show 3 ≤ 3; omega) (rcv_v F_27.2.1 F_27.2.2 h), mkls_of F_27.1, J_27_0]
  rfl
theorem F_28 : (mT 28).2.2.1 = 4 ∧ (mwd 28).1 = 0 ∧ mcl 28 = 10 := by decide +kernel
theorem G_28 : cdl.getD 28 [] = cd_28 := rfl
theorem J_28_0 : jmp 28 0 = k_28_0 := by unfold jmp; rw [G_28]; rfl
theorem J_28_20 : jmp 28 20 = k_28_20 := by unfold jmp; rw [G_28]; rfl
/-- FewEnds$Tray.put(IJ)V -/
theorem E_28 {x1 : Int} {x2 : Int} (h : knd Sh a = 10) : evc X 28 [vR (some a), vI x1, vL x2] Sh M = ev X 28 k_28_0 [some (vR (some a)), some (vI x1), some (vL x2), none] [] Sh M := by
  rw [evc_go (by rw [F_28.1]; show 4 ≤ 4; omega) (rcv_v F_28.2.1 F_28.2.2 h), mkls_of F_28.1, J_28_0]
  rfl
theorem F_29 : (mT 29).2.2.1 = 3 ∧ (mwd 29).1 = 0 ∧ mcl 29 = 10 := by decide +kernel
theorem G_29 : cdl.getD 29 [] = cd_29 := rfl
theorem J_29_0 : jmp 29 0 = k_29_0 := by unfold jmp; rw [G_29]; rfl
theorem J_29_32 : jmp 29 32 = k_29_32 := by unfold jmp; rw [G_29]; rfl
theorem J_29_37 : jmp 29 37 = k_29_37 := by unfold jmp; rw [G_29]; rfl
theorem J_29_42 : jmp 29 42 = k_29_42 := by unfold jmp; rw [G_29]; rfl
theorem J_29_46 : jmp 29 46 = k_29_46 := by unfold jmp; rw [G_29]; rfl
/-- FewEnds$Tray.cut(J)J -/
theorem E_29 {x1 : Int} (h : knd Sh a = 10) : evc X 29 [vR (some a), vL x1] Sh M = ev X 29 k_29_0 [some (vR (some a)), some (vL x1), none] [] Sh M := by
  rw [evc_go (by rw [F_29.1]; show 3 ≤ 3; omega) (rcv_v F_29.2.1 F_29.2.2 h), mkls_of F_29.1, J_29_0]
  rfl
theorem F_30 : (mT 30).2.2.1 = 4 ∧ (mwd 30).1 = 0 ∧ mcl 30 = 0 := by decide +kernel
theorem G_30 : cdl.getD 30 [] = cd_30 := rfl
theorem J_30_0 : jmp 30 0 = k_30_0 := by unfold jmp; rw [G_30]; rfl
theorem J_30_17 : jmp 30 17 = k_30_17 := by unfold jmp; rw [G_30]; rfl
theorem J_30_31 : jmp 30 31 = k_30_31 := by unfold jmp; rw [G_30]; rfl
theorem J_30_47 : jmp 30 47 = k_30_47 := by unfold jmp; rw [G_30]; rfl
/-- FewEnds.read(II)J -/
theorem E_30 {x1 : Int} {x2 : Int} (h : knd Sh a = 0) : evc X 30 [vR (some a), vI x1, vI x2] Sh M = ev X 30 k_30_0 [some (vR (some a)), some (vI x1), some (vI x2), none] [] Sh M := by
  rw [evc_go (by rw [F_30.1]; show 3 ≤ 4; omega) (rcv_v F_30.2.1 F_30.2.2 h), mkls_of F_30.1, J_30_0]
  rfl
theorem F_31 : (mT 31).2.2.1 = 2 ∧ (mwd 31).1 = 0 ∧ mcl 31 = 0 := by decide +kernel
theorem G_31 : cdl.getD 31 [] = cd_31 := rfl
theorem J_31_0 : jmp 31 0 = k_31_0 := by unfold jmp; rw [G_31]; rfl
/-- FewEnds.none(I)I -/
theorem E_31 {x1 : Int} (h : knd Sh a = 0) : evc X 31 [vR (some a), vI x1] Sh M = ev X 31 k_31_0 [some (vR (some a)), some (vI x1)] [] Sh M := by
  rw [evc_go (by rw [F_31.1]; show 2 ≤ 2; omega) (rcv_v F_31.2.1 F_31.2.2 h), mkls_of F_31.1, J_31_0]
  rfl
theorem F_32 : (mT 32).2.2.1 = 2 ∧ (mwd 32).1 = 0 ∧ mcl 32 = 10 := by decide +kernel
theorem G_32 : cdl.getD 32 [] = cd_32 := rfl
theorem J_32_0 : jmp 32 0 = k_32_0 := by unfold jmp; rw [G_32]; rfl
theorem J_32_18 : jmp 32 18 = k_32_18 := by unfold jmp; rw [G_32]; rfl
theorem J_32_21 : jmp 32 21 = k_32_21 := by unfold jmp; rw [G_32]; rfl
/-- FewEnds$Tray.numberAt(I)J -/
theorem E_32 {x1 : Int} (h : knd Sh a = 10) : evc X 32 [vR (some a), vI x1] Sh M = ev X 32 k_32_0 [some (vR (some a)), some (vI x1)] [] Sh M := by
  rw [evc_go (by rw [F_32.1]; show 2 ≤ 2; omega) (rcv_v F_32.2.1 F_32.2.2 h), mkls_of F_32.1, J_32_0]
  rfl
theorem F_33 : (mT 33).2.2.1 = 8 ∧ (mwd 33).1 = 0 ∧ mcl 33 = 0 := by decide +kernel
theorem G_33 : cdl.getD 33 [] = cd_33 := rfl
theorem J_33_0 : jmp 33 0 = k_33_0 := by unfold jmp; rw [G_33]; rfl
theorem J_33_38 : jmp 33 38 = k_33_38 := by unfold jmp; rw [G_33]; rfl
theorem J_33_44 : jmp 33 44 = k_33_44 := by unfold jmp; rw [G_33]; rfl
theorem J_33_60 : jmp 33 60 = k_33_60 := by unfold jmp; rw [G_33]; rfl
theorem J_33_66 : jmp 33 66 = k_33_66 := by unfold jmp; rw [G_33]; rfl
theorem J_33_86 : jmp 33 86 = k_33_86 := by unfold jmp; rw [G_33]; rfl
theorem J_33_109 : jmp 33 109 = k_33_109 := by unfold jmp; rw [G_33]; rfl
theorem J_33_115 : jmp 33 115 = k_33_115 := by unfold jmp; rw [G_33]; rfl
/-- FewEnds.pour(IIIII)Z -/
theorem E_33 {x1 : Int} {x2 : Int} {x3 : Int} {x4 : Int} {x5 : Int} (h : knd Sh a = 0) : evc X 33 [vR (some a), vI x1, vI x2, vI x3, vI x4, vI x5] Sh M = ev X 33 k_33_0 [some (vR (some a)), some (vI x1), some (vI x2), some (vI x3), some (vI x4), some (vI x5), none, none] [] Sh M := by
  rw [evc_go (by rw [F_33.1]; show 6 ≤ 8; omega) (rcv_v F_33.2.1 F_33.2.2 h), mkls_of F_33.1, J_33_0]
  rfl
theorem F_34 : (mT 34).2.2.1 = 6 ∧ (mwd 34).1 = 0 ∧ mcl 34 = 0 := by decide +kernel
theorem G_34 : cdl.getD 34 [] = cd_34 := rfl
theorem J_34_0 : jmp 34 0 = k_34_0 := by unfold jmp; rw [G_34]; rfl
theorem J_34_15 : jmp 34 15 = k_34_15 := by unfold jmp; rw [G_34]; rfl
/-- FewEnds.feed(IIIII)I -/
theorem E_34 {x1 : Int} {x2 : Int} {x3 : Int} {x4 : Int} {x5 : Int} (h : knd Sh a = 0) : evc X 34 [vR (some a), vI x1, vI x2, vI x3, vI x4, vI x5] Sh M = ev X 34 k_34_0 [some (vR (some a)), some (vI x1), some (vI x2), some (vI x3), some (vI x4), some (vI x5)] [] Sh M := by
  rw [evc_go (by rw [F_34.1]; show 6 ≤ 6; omega) (rcv_v F_34.2.1 F_34.2.2 h), mkls_of F_34.1, J_34_0]
  rfl
theorem F_35 : (mT 35).2.2.1 = 3 ∧ (mwd 35).1 = 0 ∧ mcl 35 = 1 := by decide +kernel
theorem G_35 : cdl.getD 35 [] = cd_35 := rfl
theorem J_35_0 : jmp 35 0 = k_35_0 := by unfold jmp; rw [G_35]; rfl
theorem J_35_3 : jmp 35 3 = k_35_3 := by unfold jmp; rw [G_35]; rfl
theorem J_35_40 : jmp 35 40 = k_35_40 := by unfold jmp; rw [G_35]; rfl
theorem J_35_46 : jmp 35 46 = k_35_46 := by unfold jmp; rw [G_35]; rfl
/-- FewEnds$Tape.put(I)V -/
theorem E_35 {x1 : Int} (h : knd Sh a = 1) : evc X 35 [vR (some a), vI x1] Sh M = ev X 35 k_35_0 [some (vR (some a)), some (vI x1), none] [] Sh M := by
  rw [evc_go (by rw [F_35.1]; show 2 ≤ 3; omega) (rcv_v F_35.2.1 F_35.2.2 h), mkls_of F_35.1, J_35_0]
  rfl
theorem F_36 : (mT 36).2.2.1 = 2 ∧ (mwd 36).1 = 0 ∧ mcl 36 = 0 := by decide +kernel
theorem G_36 : cdl.getD 36 [] = cd_36 := rfl
theorem J_36_0 : jmp 36 0 = k_36_0 := by unfold jmp; rw [G_36]; rfl
theorem J_36_15 : jmp 36 15 = k_36_15 := by unfold jmp; rw [G_36]; rfl
theorem J_36_21 : jmp 36 21 = k_36_21 := by unfold jmp; rw [G_36]; rfl
theorem J_36_39 : jmp 36 39 = k_36_39 := by unfold jmp; rw [G_36]; rfl
/-- FewEnds.chart(I)I -/
theorem E_36 {x1 : Int} (h : knd Sh a = 0) : evc X 36 [vR (some a), vI x1] Sh M = ev X 36 k_36_0 [some (vR (some a)), some (vI x1)] [] Sh M := by
  rw [evc_go (by rw [F_36.1]; show 2 ≤ 2; omega) (rcv_v F_36.2.1 F_36.2.2 h), mkls_of F_36.1, J_36_0]
  rfl
theorem F_37 : (mT 37).2.2.1 = 3 ∧ (mwd 37).1 = 0 ∧ mcl 37 = 5 := by decide +kernel
theorem G_37 : cdl.getD 37 [] = cd_37 := rfl
theorem J_37_0 : jmp 37 0 = k_37_0 := by unfold jmp; rw [G_37]; rfl
theorem J_37_34 : jmp 37 34 = k_37_34 := by unfold jmp; rw [G_37]; rfl
theorem J_37_36 : jmp 37 36 = k_37_36 := by unfold jmp; rw [G_37]; rfl
theorem J_37_55 : jmp 37 55 = k_37_55 := by unfold jmp; rw [G_37]; rfl
theorem J_37_70 : jmp 37 70 = k_37_70 := by unfold jmp; rw [G_37]; rfl
theorem J_37_79 : jmp 37 79 = k_37_79 := by unfold jmp; rw [G_37]; rfl
theorem J_37_85 : jmp 37 85 = k_37_85 := by unfold jmp; rw [G_37]; rfl
/-- FewEnds$ChartReader.reads(I)Z -/
theorem E_37 {x1 : Int} (h : knd Sh a = 5) : evc X 37 [vR (some a), vI x1] Sh M = ev X 37 k_37_0 [some (vR (some a)), some (vI x1), none] [] Sh M := by
  rw [evc_go (by rw [F_37.1]; show 2 ≤ 3; omega) (rcv_v F_37.2.1 F_37.2.2 h), mkls_of F_37.1, J_37_0]
  rfl
theorem F_38 : (mT 38).2.2.1 = 2 ∧ (mwd 38).1 = 0 ∧ mcl 38 = 1 := by decide +kernel
theorem G_38 : cdl.getD 38 [] = cd_38 := rfl
theorem J_38_0 : jmp 38 0 = k_38_0 := by unfold jmp; rw [G_38]; rfl
/-- FewEnds$Tape.open(I)V -/
theorem E_38 {x1 : Int} (h : knd Sh a = 1) : evc X 38 [vR (some a), vI x1] Sh M = ev X 38 k_38_0 [some (vR (some a)), some (vI x1)] [] Sh M := by
  rw [evc_go (by rw [F_38.1]; show 2 ≤ 2; omega) (rcv_v F_38.2.1 F_38.2.2 h), mkls_of F_38.1, J_38_0]
  rfl
theorem F_40 : (mT 40).2.2.1 = 1 ∧ (mwd 40).1 = 0 ∧ mcl 40 = 5 := by decide +kernel
theorem G_40 : cdl.getD 40 [] = cd_40 := rfl
theorem J_40_0 : jmp 40 0 = k_40_0 := by unfold jmp; rw [G_40]; rfl
theorem J_40_25 : jmp 40 25 = k_40_25 := by unfold jmp; rw [G_40]; rfl
theorem J_40_27 : jmp 40 27 = k_40_27 := by unfold jmp; rw [G_40]; rfl
theorem J_40_58 : jmp 40 58 = k_40_58 := by unfold jmp; rw [G_40]; rfl
/-- FewEnds$ChartReader.readSize()Z -/
theorem E_40 (h : knd Sh a = 5) : evc X 40 [vR (some a)] Sh M = ev X 40 k_40_0 [some (vR (some a))] [] Sh M := by
  rw [evc_go (by rw [F_40.1]; show 1 ≤ 1; omega) (rcv_v F_40.2.1 F_40.2.2 h), mkls_of F_40.1, J_40_0]
  rfl
theorem F_41 : (mT 41).2.2.1 = 2 ∧ (mwd 41).1 = 0 ∧ mcl 41 = 1 := by decide +kernel
theorem G_41 : cdl.getD 41 [] = cd_41 := rfl
theorem J_41_0 : jmp 41 0 = k_41_0 := by unfold jmp; rw [G_41]; rfl
theorem J_41_23 : jmp 41 23 = k_41_23 := by unfold jmp; rw [G_41]; rfl
theorem J_41_27 : jmp 41 27 = k_41_27 := by unfold jmp; rw [G_41]; rfl
theorem J_41_28 : jmp 41 28 = k_41_28 := by unfold jmp; rw [G_41]; rfl
/-- FewEnds$Tape.goWord(Ljava/lang/String;)Z -/
theorem E_41 {x1 : Nat} (h : knd Sh a = 1) (hx1 : x1 < 21) : evc X 41 [vR (some a), vS x1] Sh M = ev X 41 k_41_0 [some (vR (some a)), some (vS x1)] [] Sh M := by
  rw [evc_go (by rw [F_41.1]; show 2 ≤ 2; omega) (rcv_v F_41.2.1 F_41.2.2 h), mkls_of F_41.1, J_41_0]
  show ev X 41 k_41_0 [some (vR (some a)), (if x1 < 21 then some (vS x1) else none)] [] Sh M = _
  rw [if_pos hx1]
theorem F_42 : (mT 42).2.2.1 = 2 ∧ (mwd 42).1 = 0 ∧ mcl 42 = 1 := by decide +kernel
theorem G_42 : cdl.getD 42 [] = cd_42 := rfl
theorem J_42_0 : jmp 42 0 = k_42_0 := by unfold jmp; rw [G_42]; rfl
theorem J_42_39 : jmp 42 39 = k_42_39 := by unfold jmp; rw [G_42]; rfl
theorem J_42_52 : jmp 42 52 = k_42_52 := by unfold jmp; rw [G_42]; rfl
theorem J_42_83 : jmp 42 83 = k_42_83 := by unfold jmp; rw [G_42]; rfl
theorem J_42_84 : jmp 42 84 = k_42_84 := by unfold jmp; rw [G_42]; rfl
theorem J_42_109 : jmp 42 109 = k_42_109 := by unfold jmp; rw [G_42]; rfl
theorem J_42_128 : jmp 42 128 = k_42_128 := by unfold jmp; rw [G_42]; rfl
theorem J_42_147 : jmp 42 147 = k_42_147 := by unfold jmp; rw [G_42]; rfl
theorem J_42_168 : jmp 42 168 = k_42_168 := by unfold jmp; rw [G_42]; rfl
theorem J_42_184 : jmp 42 184 = k_42_184 := by unfold jmp; rw [G_42]; rfl
theorem J_42_188 : jmp 42 188 = k_42_188 := by unfold jmp; rw [G_42]; rfl
theorem J_42_189 : jmp 42 189 = k_42_189 := by unfold jmp; rw [G_42]; rfl
/-- FewEnds$Tape.go()Z -/
theorem E_42 (h : knd Sh a = 1) : evc X 42 [vR (some a)] Sh M = ev X 42 k_42_0 [some (vR (some a)), none] [] Sh M := by
  rw [evc_go (by rw [F_42.1]; show 1 ≤ 2; omega) (rcv_v F_42.2.1 F_42.2.2 h), mkls_of F_42.1, J_42_0]
  rfl
theorem F_43 : (mT 43).2.2.1 = 1 ∧ (mwd 43).1 = 0 ∧ mcl 43 = 1 := by decide +kernel
theorem G_43 : cdl.getD 43 [] = cd_43 := rfl
theorem J_43_0 : jmp 43 0 = k_43_0 := by unfold jmp; rw [G_43]; rfl
theorem J_43_10 : jmp 43 10 = k_43_10 := by unfold jmp; rw [G_43]; rfl
theorem J_43_91 : jmp 43 91 = k_43_91 := by unfold jmp; rw [G_43]; rfl
theorem J_43_110 : jmp 43 110 = k_43_110 := by unfold jmp; rw [G_43]; rfl
/-- FewEnds$Tape.readWord()V -/
theorem E_43 (h : knd Sh a = 1) : evc X 43 [vR (some a)] Sh M = ev X 43 k_43_0 [some (vR (some a))] [] Sh M := by
  rw [evc_go (by rw [F_43.1]; show 1 ≤ 1; omega) (rcv_v F_43.2.1 F_43.2.2 h), mkls_of F_43.1, J_43_0]
  rfl
theorem F_44 : (mT 44).2.2.1 = 1 ∧ (mwd 44).1 = 0 ∧ mcl 44 = 1 := by decide +kernel
theorem G_44 : cdl.getD 44 [] = cd_44 := rfl
theorem J_44_0 : jmp 44 0 = k_44_0 := by unfold jmp; rw [G_44]; rfl
theorem J_44_5 : jmp 44 5 = k_44_5 := by unfold jmp; rw [G_44]; rfl
theorem J_44_81 : jmp 44 81 = k_44_81 := by unfold jmp; rw [G_44]; rfl
theorem J_44_99 : jmp 44 99 = k_44_99 := by unfold jmp; rw [G_44]; rfl
theorem J_44_100 : jmp 44 100 = k_44_100 := by unfold jmp; rw [G_44]; rfl
/-- FewEnds$Tape.readNumber()V -/
theorem E_44 (h : knd Sh a = 1) : evc X 44 [vR (some a)] Sh M = ev X 44 k_44_0 [some (vR (some a))] [] Sh M := by
  rw [evc_go (by rw [F_44.1]; show 1 ≤ 1; omega) (rcv_v F_44.2.1 F_44.2.2 h), mkls_of F_44.1, J_44_0]
  rfl
theorem F_45 : (mT 45).2.2.1 = 2 ∧ (mwd 45).1 = 0 ∧ mcl 45 = 1 := by decide +kernel
theorem G_45 : cdl.getD 45 [] = cd_45 := rfl
theorem J_45_0 : jmp 45 0 = k_45_0 := by unfold jmp; rw [G_45]; rfl
/-- FewEnds$Tape.wrong(I)Z -/
theorem E_45 {x1 : Int} (h : knd Sh a = 1) : evc X 45 [vR (some a), vI x1] Sh M = ev X 45 k_45_0 [some (vR (some a)), some (vI x1)] [] Sh M := by
  rw [evc_go (by rw [F_45.1]; show 2 ≤ 2; omega) (rcv_v F_45.2.1 F_45.2.2 h), mkls_of F_45.1, J_45_0]
  rfl
theorem F_46 : (mT 46).2.2.1 = 5 ∧ (mwd 46).1 = 0 ∧ mcl 46 = 1 := by decide +kernel
theorem G_46 : cdl.getD 46 [] = cd_46 := rfl
theorem J_46_0 : jmp 46 0 = k_46_0 := by unfold jmp; rw [G_46]; rfl
theorem J_46_5 : jmp 46 5 = k_46_5 := by unfold jmp; rw [G_46]; rfl
theorem J_46_40 : jmp 46 40 = k_46_40 := by unfold jmp; rw [G_46]; rfl
theorem J_46_61 : jmp 46 61 = k_46_61 := by unfold jmp; rw [G_46]; rfl
theorem J_46_62 : jmp 46 62 = k_46_62 := by unfold jmp; rw [G_46]; rfl
/-- FewEnds$Tape.isWord(Ljava/lang/String;)Z -/
theorem E_46 {x1 : Nat} (h : knd Sh a = 1) (hx1 : x1 < 21) : evc X 46 [vR (some a), vS x1] Sh M = ev X 46 k_46_0 [some (vR (some a)), some (vS x1), none, none, none] [] Sh M := by
  rw [evc_go (by rw [F_46.1]; show 2 ≤ 5; omega) (rcv_v F_46.2.1 F_46.2.2 h), mkls_of F_46.1, J_46_0]
  show ev X 46 k_46_0 [some (vR (some a)), (if x1 < 21 then some (vS x1) else none), none, none, none] [] Sh M = _
  rw [if_pos hx1]
theorem F_58 : (mT 58).2.2.1 = 3 ∧ (mwd 58).1 = 0 ∧ mcl 58 = 1 := by decide +kernel
theorem G_58 : cdl.getD 58 [] = cd_58 := rfl
theorem J_58_0 : jmp 58 0 = k_58_0 := by unfold jmp; rw [G_58]; rfl
theorem J_58_9 : jmp 58 9 = k_58_9 := by unfold jmp; rw [G_58]; rfl
theorem J_58_23 : jmp 58 23 = k_58_23 := by unfold jmp; rw [G_58]; rfl
theorem J_58_39 : jmp 58 39 = k_58_39 := by unfold jmp; rw [G_58]; rfl
theorem J_58_47 : jmp 58 47 = k_58_47 := by unfold jmp; rw [G_58]; rfl
theorem J_58_51 : jmp 58 51 = k_58_51 := by unfold jmp; rw [G_58]; rfl
theorem J_58_52 : jmp 58 52 = k_58_52 := by unfold jmp; rw [G_58]; rfl
/-- FewEnds$Tape.goNumber(II)Z -/
theorem E_58 {x1 : Int} {x2 : Int} (h : knd Sh a = 1) : evc X 58 [vR (some a), vI x1, vI x2] Sh M = ev X 58 k_58_0 [some (vR (some a)), some (vI x1), some (vI x2)] [] Sh M := by
  rw [evc_go (by rw [F_58.1]; show 3 ≤ 3; omega) (rcv_v F_58.2.1 F_58.2.2 h), mkls_of F_58.1, J_58_0]
  rfl
theorem F_59 : (mT 59).2.2.1 = 1 ∧ (mwd 59).1 = 0 ∧ mcl 59 = 1 := by decide +kernel
theorem G_59 : cdl.getD 59 [] = cd_59 := rfl
theorem J_59_0 : jmp 59 0 = k_59_0 := by unfold jmp; rw [G_59]; rfl
theorem J_59_23 : jmp 59 23 = k_59_23 := by unfold jmp; rw [G_59]; rfl
theorem J_59_27 : jmp 59 27 = k_59_27 := by unfold jmp; rw [G_59]; rfl
theorem J_59_28 : jmp 59 28 = k_59_28 := by unfold jmp; rw [G_59]; rfl
/-- FewEnds$Tape.goSign()Z -/
theorem E_59 (h : knd Sh a = 1) : evc X 59 [vR (some a)] Sh M = ev X 59 k_59_0 [some (vR (some a))] [] Sh M := by
  rw [evc_go (by rw [F_59.1]; show 1 ≤ 1; omega) (rcv_v F_59.2.1 F_59.2.2 h), mkls_of F_59.1, J_59_0]
  rfl
theorem F_60 : (mT 60).2.2.1 = 1 ∧ (mwd 60).1 = 0 ∧ mcl 60 = 5 := by decide +kernel
theorem G_60 : cdl.getD 60 [] = cd_60 := rfl
theorem J_60_0 : jmp 60 0 = k_60_0 := by unfold jmp; rw [G_60]; rfl
theorem J_60_26 : jmp 60 26 = k_60_26 := by unfold jmp; rw [G_60]; rfl
/-- FewEnds$ChartReader.ends()Z -/
theorem E_60 (h : knd Sh a = 5) : evc X 60 [vR (some a)] Sh M = ev X 60 k_60_0 [some (vR (some a))] [] Sh M := by
  rw [evc_go (by rw [F_60.1]; show 1 ≤ 1; omega) (rcv_v F_60.2.1 F_60.2.2 h), mkls_of F_60.1, J_60_0]
  rfl
theorem F_61 : (mT 61).2.2.1 = 5 ∧ (mwd 61).1 = 0 ∧ mcl 61 = 2 := by decide +kernel
theorem G_61 : cdl.getD 61 [] = cd_61 := rfl
theorem J_61_0 : jmp 61 0 = k_61_0 := by unfold jmp; rw [G_61]; rfl
theorem J_61_21 : jmp 61 21 = k_61_21 := by unfold jmp; rw [G_61]; rfl
theorem J_61_33 : jmp 61 33 = k_61_33 := by unfold jmp; rw [G_61]; rfl
theorem J_61_85 : jmp 61 85 = k_61_85 := by unfold jmp; rw [G_61]; rfl
theorem J_61_91 : jmp 61 91 = k_61_91 := by unfold jmp; rw [G_61]; rfl
/-- FewEnds$Chart.arrange()V -/
theorem E_61 (h : knd Sh a = 2) : evc X 61 [vR (some a)] Sh M = ev X 61 k_61_0 [some (vR (some a)), none, none, none, none] [] Sh M := by
  rw [evc_go (by rw [F_61.1]; show 1 ≤ 5; omega) (rcv_v F_61.2.1 F_61.2.2 h), mkls_of F_61.1, J_61_0]
  rfl
theorem F_62 : (mT 62).2.2.1 = 5 ∧ (mwd 62).1 = 0 ∧ mcl 62 = 2 := by decide +kernel
theorem G_62 : cdl.getD 62 [] = cd_62 := rfl
theorem J_62_0 : jmp 62 0 = k_62_0 := by unfold jmp; rw [G_62]; rfl
theorem J_62_24 : jmp 62 24 = k_62_24 := by unfold jmp; rw [G_62]; rfl
theorem J_62_28 : jmp 62 28 = k_62_28 := by unfold jmp; rw [G_62]; rfl
theorem J_62_29 : jmp 62 29 = k_62_29 := by unfold jmp; rw [G_62]; rfl
theorem J_62_43 : jmp 62 43 = k_62_43 := by unfold jmp; rw [G_62]; rfl
theorem J_62_48 : jmp 62 48 = k_62_48 := by unfold jmp; rw [G_62]; rfl
/-- FewEnds$Chart.stitchAt(II)I -/
theorem E_62 {x1 : Int} {x2 : Int} (h : knd Sh a = 2) : evc X 62 [vR (some a), vI x1, vI x2] Sh M = ev X 62 k_62_0 [some (vR (some a)), some (vI x1), some (vI x2), none, none] [] Sh M := by
  rw [evc_go (by rw [F_62.1]; show 3 ≤ 5; omega) (rcv_v F_62.2.1 F_62.2.2 h), mkls_of F_62.1, J_62_0]
  rfl
theorem F_63 : (mT 63).2.2.1 = 1 ∧ (mwd 63).1 = 0 ∧ mcl 63 = 5 := by decide +kernel
theorem G_63 : cdl.getD 63 [] = cd_63 := rfl
theorem J_63_0 : jmp 63 0 = k_63_0 := by unfold jmp; rw [G_63]; rfl
theorem J_63_17 : jmp 63 17 = k_63_17 := by unfold jmp; rw [G_63]; rfl
theorem J_63_34 : jmp 63 34 = k_63_34 := by unfold jmp; rw [G_63]; rfl
theorem J_63_55 : jmp 63 55 = k_63_55 := by unfold jmp; rw [G_63]; rfl
theorem J_63_78 : jmp 63 78 = k_63_78 := by unfold jmp; rw [G_63]; rfl
theorem J_63_100 : jmp 63 100 = k_63_100 := by unfold jmp; rw [G_63]; rfl
theorem J_63_124 : jmp 63 124 = k_63_124 := by unfold jmp; rw [G_63]; rfl
theorem J_63_148 : jmp 63 148 = k_63_148 := by unfold jmp; rw [G_63]; rfl
theorem J_63_170 : jmp 63 170 = k_63_170 := by unfold jmp; rw [G_63]; rfl
theorem J_63_193 : jmp 63 193 = k_63_193 := by unfold jmp; rw [G_63]; rfl
theorem J_63_216 : jmp 63 216 = k_63_216 := by unfold jmp; rw [G_63]; rfl
theorem J_63_233 : jmp 63 233 = k_63_233 := by unfold jmp; rw [G_63]; rfl
/-- FewEnds$ChartReader.readPart()Z -/
theorem E_63 (h : knd Sh a = 5) : evc X 63 [vR (some a)] Sh M = ev X 63 k_63_0 [some (vR (some a))] [] Sh M := by
  rw [evc_go (by rw [F_63.1]; show 1 ≤ 1; omega) (rcv_v F_63.2.1 F_63.2.2 h), mkls_of F_63.1, J_63_0]
  rfl
theorem F_64 : (mT 64).2.2.1 = 2 ∧ (mwd 64).1 = 0 ∧ mcl 64 = 5 := by decide +kernel
theorem G_64 : cdl.getD 64 [] = cd_64 := rfl
theorem J_64_0 : jmp 64 0 = k_64_0 := by unfold jmp; rw [G_64]; rfl
theorem J_64_25 : jmp 64 25 = k_64_25 := by unfold jmp; rw [G_64]; rfl
theorem J_64_37 : jmp 64 37 = k_64_37 := by unfold jmp; rw [G_64]; rfl
theorem J_64_53 : jmp 64 53 = k_64_53 := by unfold jmp; rw [G_64]; rfl
theorem J_64_80 : jmp 64 80 = k_64_80 := by unfold jmp; rw [G_64]; rfl
theorem J_64_121 : jmp 64 121 = k_64_121 := by unfold jmp; rw [G_64]; rfl
theorem J_64_123 : jmp 64 123 = k_64_123 := by unfold jmp; rw [G_64]; rfl
theorem J_64_164 : jmp 64 164 = k_64_164 := by unfold jmp; rw [G_64]; rfl
theorem J_64_166 : jmp 64 166 = k_64_166 := by unfold jmp; rw [G_64]; rfl
/-- FewEnds$ChartReader.readColour()Z -/
theorem E_64 (h : knd Sh a = 5) : evc X 64 [vR (some a)] Sh M = ev X 64 k_64_0 [some (vR (some a)), none] [] Sh M := by
  rw [evc_go (by rw [F_64.1]; show 1 ≤ 2; omega) (rcv_v F_64.2.1 F_64.2.2 h), mkls_of F_64.1, J_64_0]
  rfl
theorem F_65 : (mT 65).2.2.1 = 1 ∧ (mwd 65).1 = 0 ∧ mcl 65 = 5 := by decide +kernel
theorem G_65 : cdl.getD 65 [] = cd_65 := rfl
theorem J_65_0 : jmp 65 0 = k_65_0 := by unfold jmp; rw [G_65]; rfl
theorem J_65_23 : jmp 65 23 = k_65_23 := by unfold jmp; rw [G_65]; rfl
theorem J_65_25 : jmp 65 25 = k_65_25 := by unfold jmp; rw [G_65]; rfl
theorem J_65_209 : jmp 65 209 = k_65_209 := by unfold jmp; rw [G_65]; rfl
theorem J_65_210 : jmp 65 210 = k_65_210 := by unfold jmp; rw [G_65]; rfl
/-- FewEnds$ChartReader.isName()Z -/
theorem E_65 (h : knd Sh a = 5) : evc X 65 [vR (some a)] Sh M = ev X 65 k_65_0 [some (vR (some a))] [] Sh M := by
  rw [evc_go (by rw [F_65.1]; show 1 ≤ 1; omega) (rcv_v F_65.2.1 F_65.2.2 h), mkls_of F_65.1, J_65_0]
  rfl
theorem F_66 : (mT 66).2.2.1 = 4 ∧ (mwd 66).1 = 0 ∧ mcl 66 = 2 := by decide +kernel
theorem G_66 : cdl.getD 66 [] = cd_66 := rfl
theorem J_66_0 : jmp 66 0 = k_66_0 := by unfold jmp; rw [G_66]; rfl
theorem J_66_2 : jmp 66 2 = k_66_2 := by unfold jmp; rw [G_66]; rfl
theorem J_66_25 : jmp 66 25 = k_66_25 := by unfold jmp; rw [G_66]; rfl
theorem J_66_31 : jmp 66 31 = k_66_31 := by unfold jmp; rw [G_66]; rfl
/-- FewEnds$Chart.named(J)I -/
theorem E_66 {x1 : Int} (h : knd Sh a = 2) : evc X 66 [vR (some a), vL x1] Sh M = ev X 66 k_66_0 [some (vR (some a)), some (vL x1), none, none] [] Sh M := by
  rw [evc_go (by rw [F_66.1]; show 3 ≤ 4; omega) (rcv_v F_66.2.1 F_66.2.2 h), mkls_of F_66.1, J_66_0]
  rfl
theorem F_67 : (mT 67).2.2.1 = 3 ∧ (mwd 67).1 = 0 ∧ mcl 67 = 5 := by decide +kernel
theorem G_67 : cdl.getD 67 [] = cd_67 := rfl
theorem J_67_0 : jmp 67 0 = k_67_0 := by unfold jmp; rw [G_67]; rfl
theorem J_67_26 : jmp 67 26 = k_67_26 := by unfold jmp; rw [G_67]; rfl
theorem J_67_38 : jmp 67 38 = k_67_38 := by unfold jmp; rw [G_67]; rfl
theorem J_67_55 : jmp 67 55 = k_67_55 := by unfold jmp; rw [G_67]; rfl
theorem J_67_97 : jmp 67 97 = k_67_97 := by unfold jmp; rw [G_67]; rfl
theorem J_67_101 : jmp 67 101 = k_67_101 := by unfold jmp; rw [G_67]; rfl
theorem J_67_102 : jmp 67 102 = k_67_102 := by unfold jmp; rw [G_67]; rfl
theorem J_67_103 : jmp 67 103 = k_67_103 := by unfold jmp; rw [G_67]; rfl
theorem J_67_114 : jmp 67 114 = k_67_114 := by unfold jmp; rw [G_67]; rfl
theorem J_67_120 : jmp 67 120 = k_67_120 := by unfold jmp; rw [G_67]; rfl
/-- FewEnds$ChartReader.readRow()Z -/
theorem E_67 (h : knd Sh a = 5) : evc X 67 [vR (some a)] Sh M = ev X 67 k_67_0 [some (vR (some a)), none, none] [] Sh M := by
  rw [evc_go (by rw [F_67.1]; show 1 ≤ 3; omega) (rcv_v F_67.2.1 F_67.2.2 h), mkls_of F_67.1, J_67_0]
  rfl
theorem F_68 : (mT 68).2.2.1 = 4 ∧ (mwd 68).1 = 0 ∧ mcl 68 = 5 := by decide +kernel
theorem G_68 : cdl.getD 68 [] = cd_68 := rfl
theorem J_68_0 : jmp 68 0 = k_68_0 := by unfold jmp; rw [G_68]; rfl
theorem J_68_16 : jmp 68 16 = k_68_16 := by unfold jmp; rw [G_68]; rfl
theorem J_68_45 : jmp 68 45 = k_68_45 := by unfold jmp; rw [G_68]; rfl
theorem J_68_60 : jmp 68 60 = k_68_60 := by unfold jmp; rw [G_68]; rfl
/-- FewEnds$ChartReader.readStitch(II)Z -/
theorem E_68 {x1 : Int} {x2 : Int} (h : knd Sh a = 5) : evc X 68 [vR (some a), vI x1, vI x2] Sh M = ev X 68 k_68_0 [some (vR (some a)), some (vI x1), some (vI x2), none] [] Sh M := by
  rw [evc_go (by rw [F_68.1]; show 3 ≤ 4; omega) (rcv_v F_68.2.1 F_68.2.2 h), mkls_of F_68.1, J_68_0]
  rfl
theorem F_69 : (mT 69).2.2.1 = 4 ∧ (mwd 69).1 = 0 ∧ mcl 69 = 5 := by decide +kernel
theorem G_69 : cdl.getD 69 [] = cd_69 := rfl
theorem J_69_0 : jmp 69 0 = k_69_0 := by unfold jmp; rw [G_69]; rfl
theorem J_69_32 : jmp 69 32 = k_69_32 := by unfold jmp; rw [G_69]; rfl
theorem J_69_33 : jmp 69 33 = k_69_33 := by unfold jmp; rw [G_69]; rfl
/-- FewEnds$ChartReader.readSetting(III)Z -/
theorem E_69 {x1 : Int} {x2 : Int} {x3 : Int} (h : knd Sh a = 5) : evc X 69 [vR (some a), vI x1, vI x2, vI x3] Sh M = ev X 69 k_69_0 [some (vR (some a)), some (vI x1), some (vI x2), some (vI x3)] [] Sh M := by
  rw [evc_go (by rw [F_69.1]; show 4 ≤ 4; omega) (rcv_v F_69.2.1 F_69.2.2 h), mkls_of F_69.1, J_69_0]
  rfl
theorem F_70 : (mT 70).2.2.1 = 2 ∧ (mwd 70).1 = 0 ∧ mcl 70 = 5 := by decide +kernel
theorem G_70 : cdl.getD 70 [] = cd_70 := rfl
theorem J_70_0 : jmp 70 0 = k_70_0 := by unfold jmp; rw [G_70]; rfl
theorem J_70_21 : jmp 70 21 = k_70_21 := by unfold jmp; rw [G_70]; rfl
/-- FewEnds$ChartReader.isFirst(I)Z -/
theorem E_70 {x1 : Int} (h : knd Sh a = 5) : evc X 70 [vR (some a), vI x1] Sh M = ev X 70 k_70_0 [some (vR (some a)), some (vI x1)] [] Sh M := by
  rw [evc_go (by rw [F_70.1]; show 2 ≤ 2; omega) (rcv_v F_70.2.1 F_70.2.2 h), mkls_of F_70.1, J_70_0]
  rfl
theorem F_71 : (mT 71).2.2.1 = 4 ∧ (mwd 71).1 = 0 ∧ mcl 71 = 5 := by decide +kernel
theorem G_71 : cdl.getD 71 [] = cd_71 := rfl
theorem J_71_0 : jmp 71 0 = k_71_0 := by unfold jmp; rw [G_71]; rfl
theorem J_71_14 : jmp 71 14 = k_71_14 := by unfold jmp; rw [G_71]; rfl
/-- FewEnds$ChartReader.readNumber(III)Z -/
theorem E_71 {x1 : Int} {x2 : Int} {x3 : Int} (h : knd Sh a = 5) : evc X 71 [vR (some a), vI x1, vI x2, vI x3] Sh M = ev X 71 k_71_0 [some (vR (some a)), some (vI x1), some (vI x2), some (vI x3)] [] Sh M := by
  rw [evc_go (by rw [F_71.1]; show 4 ≤ 4; omega) (rcv_v F_71.2.1 F_71.2.2 h), mkls_of F_71.1, J_71_0]
  rfl
theorem F_72 : (mT 72).2.2.1 = 5 ∧ (mwd 72).1 = 0 ∧ mcl 72 = 5 := by decide +kernel
theorem G_72 : cdl.getD 72 [] = cd_72 := rfl
theorem J_72_0 : jmp 72 0 = k_72_0 := by unfold jmp; rw [G_72]; rfl
theorem J_72_57 : jmp 72 57 = k_72_57 := by unfold jmp; rw [G_72]; rfl
theorem J_72_58 : jmp 72 58 = k_72_58 := by unfold jmp; rw [G_72]; rfl
/-- FewEnds$ChartReader.readPriced(IIII)Z -/
theorem E_72 {x1 : Int} {x2 : Int} {x3 : Int} {x4 : Int} (h : knd Sh a = 5) : evc X 72 [vR (some a), vI x1, vI x2, vI x3, vI x4] Sh M = ev X 72 k_72_0 [some (vR (some a)), some (vI x1), some (vI x2), some (vI x3), some (vI x4)] [] Sh M := by
  rw [evc_go (by rw [F_72.1]; show 5 ≤ 5; omega) (rcv_v F_72.2.1 F_72.2.2 h), mkls_of F_72.1, J_72_0]
  rfl
theorem F_73 : (mT 73).2.2.1 = 1 ∧ (mwd 73).1 = 0 ∧ mcl 73 = 5 := by decide +kernel
theorem G_73 : cdl.getD 73 [] = cd_73 := rfl
theorem J_73_0 : jmp 73 0 = k_73_0 := by unfold jmp; rw [G_73]; rfl
theorem J_73_11 : jmp 73 11 = k_73_11 := by unfold jmp; rw [G_73]; rfl
/-- FewEnds$ChartReader.readRound()Z -/
theorem E_73 (h : knd Sh a = 5) : evc X 73 [vR (some a)] Sh M = ev X 73 k_73_0 [some (vR (some a))] [] Sh M := by
  rw [evc_go (by rw [F_73.1]; show 1 ≤ 1; omega) (rcv_v F_73.2.1 F_73.2.2 h), mkls_of F_73.1, J_73_0]
  rfl
theorem F_74 : (mT 74).2.2.1 = 2 ∧ (mwd 74).1 = 0 ∧ mcl 74 = 2 := by decide +kernel
theorem G_74 : cdl.getD 74 [] = cd_74 := rfl
theorem J_74_0 : jmp 74 0 = k_74_0 := by unfold jmp; rw [G_74]; rfl
/-- FewEnds$Chart.copyFrom(LFewEnds$Chart;)V -/
theorem E_74 {x1 : Option Nat} (h : knd Sh a = 2) : evc X 74 [vR (some a), vR x1] Sh M = ev X 74 k_74_0 [some (vR (some a)), some (vR x1)] [] Sh M := by
  rw [evc_go (by rw [F_74.1]; show 2 ≤ 2; omega) (rcv_v F_74.2.1 F_74.2.2 h), mkls_of F_74.1, J_74_0]
  rfl
theorem F_75 : (mT 75).2.2.1 = 1 ∧ (mwd 75).1 = 0 ∧ mcl 75 = 4 := by decide +kernel
theorem G_75 : cdl.getD 75 [] = cd_75 := rfl
theorem J_75_0 : jmp 75 0 = k_75_0 := by unfold jmp; rw [G_75]; rfl
/-- FewEnds$Directions.forget()V -/
theorem E_75 (h : knd Sh a = 4) : evc X 75 [vR (some a)] Sh M = ev X 75 k_75_0 [some (vR (some a))] [] Sh M := by
  rw [evc_go (by rw [F_75.1]; show 1 ≤ 1; omega) (rcv_v F_75.2.1 F_75.2.2 h), mkls_of F_75.1, J_75_0]
  rfl
theorem F_76 : (mT 76).2.2.1 = 1 ∧ (mwd 76).1 = 0 ∧ mcl 76 = 0 := by decide +kernel
theorem G_76 : cdl.getD 76 [] = cd_76 := rfl
theorem J_76_0 : jmp 76 0 = k_76_0 := by unfold jmp; rw [G_76]; rfl
/-- FewEnds.forgetWhatWasReckoned()V -/
theorem E_76 (h : knd Sh a = 0) : evc X 76 [vR (some a)] Sh M = ev X 76 k_76_0 [some (vR (some a))] [] Sh M := by
  rw [evc_go (by rw [F_76.1]; show 1 ≤ 1; omega) (rcv_v F_76.2.1 F_76.2.2 h), mkls_of F_76.1, J_76_0]
  rfl
theorem F_77 : (mT 77).2.2.1 = 2 ∧ (mwd 77).1 = 0 ∧ mcl 77 = 0 := by decide +kernel
theorem G_77 : cdl.getD 77 [] = cd_77 := rfl
theorem J_77_0 : jmp 77 0 = k_77_0 := by unfold jmp; rw [G_77]; rfl
/-- FewEnds.answer(I)I -/
theorem E_77 {x1 : Int} (h : knd Sh a = 0) : evc X 77 [vR (some a), vI x1] Sh M = ev X 77 k_77_0 [some (vR (some a)), some (vI x1)] [] Sh M := by
  rw [evc_go (by rw [F_77.1]; show 2 ≤ 2; omega) (rcv_v F_77.2.1 F_77.2.2 h), mkls_of F_77.1, J_77_0]
  rfl
theorem F_78 : (mT 78).2.2.1 = 2 ∧ (mwd 78).1 = 0 ∧ mcl 78 = 0 := by decide +kernel
theorem G_78 : cdl.getD 78 [] = cd_78 := rfl
theorem J_78_0 : jmp 78 0 = k_78_0 := by unfold jmp; rw [G_78]; rfl
theorem J_78_22 : jmp 78 22 = k_78_22 := by unfold jmp; rw [G_78]; rfl
theorem J_78_28 : jmp 78 28 = k_78_28 := by unfold jmp; rw [G_78]; rfl
theorem J_78_50 : jmp 78 50 = k_78_50 := by unfold jmp; rw [G_78]; rfl
/-- FewEnds.directions(I)I -/
theorem E_78 {x1 : Int} (h : knd Sh a = 0) : evc X 78 [vR (some a), vI x1] Sh M = ev X 78 k_78_0 [some (vR (some a)), some (vI x1)] [] Sh M := by
  rw [evc_go (by rw [F_78.1]; show 2 ≤ 2; omega) (rcv_v F_78.2.1 F_78.2.2 h), mkls_of F_78.1, J_78_0]
  rfl
theorem F_79 : (mT 79).2.2.1 = 4 ∧ (mwd 79).1 = 0 ∧ mcl 79 = 6 := by decide +kernel
theorem G_79 : cdl.getD 79 [] = cd_79 := rfl
theorem J_79_0 : jmp 79 0 = k_79_0 := by unfold jmp; rw [G_79]; rfl
theorem J_79_22 : jmp 79 22 = k_79_22 := by unfold jmp; rw [G_79]; rfl
theorem J_79_41 : jmp 79 41 = k_79_41 := by unfold jmp; rw [G_79]; rfl
theorem J_79_77 : jmp 79 77 = k_79_77 := by unfold jmp; rw [G_79]; rfl
theorem J_79_81 : jmp 79 81 = k_79_81 := by unfold jmp; rw [G_79]; rfl
theorem J_79_82 : jmp 79 82 = k_79_82 := by unfold jmp; rw [G_79]; rfl
theorem J_79_83 : jmp 79 83 = k_79_83 := by unfold jmp; rw [G_79]; rfl
theorem J_79_93 : jmp 79 93 = k_79_93 := by unfold jmp; rw [G_79]; rfl
theorem J_79_99 : jmp 79 99 = k_79_99 := by unfold jmp; rw [G_79]; rfl
/-- FewEnds$DirectionsReader.reads(ILFewEnds$Chart;)Z -/
theorem E_79 {x1 : Int} {x2 : Option Nat} (h : knd Sh a = 6) : evc X 79 [vR (some a), vI x1, vR x2] Sh M = ev X 79 k_79_0 [some (vR (some a)), some (vI x1), some (vR x2), none] [] Sh M := by
  rw [evc_go (by rw [F_79.1]; show 3 ≤ 4; omega) (rcv_v F_79.2.1 F_79.2.2 h), mkls_of F_79.1, J_79_0]
  rfl
theorem F_80 : (mT 80).2.2.1 = 2 ∧ (mwd 80).1 = 0 ∧ mcl 80 = 6 := by decide +kernel
theorem G_80 : cdl.getD 80 [] = cd_80 := rfl
theorem J_80_0 : jmp 80 0 = k_80_0 := by unfold jmp; rw [G_80]; rfl
theorem J_80_31 : jmp 80 31 = k_80_31 := by unfold jmp; rw [G_80]; rfl
theorem J_80_32 : jmp 80 32 = k_80_32 := by unfold jmp; rw [G_80]; rfl
theorem J_80_33 : jmp 80 33 = k_80_33 := by unfold jmp; rw [G_80]; rfl
theorem J_80_64 : jmp 80 64 = k_80_64 := by unfold jmp; rw [G_80]; rfl
theorem J_80_65 : jmp 80 65 = k_80_65 := by unfold jmp; rw [G_80]; rfl
theorem J_80_66 : jmp 80 66 = k_80_66 := by unfold jmp; rw [G_80]; rfl
theorem J_80_96 : jmp 80 96 = k_80_96 := by unfold jmp; rw [G_80]; rfl
theorem J_80_97 : jmp 80 97 = k_80_97 := by unfold jmp; rw [G_80]; rfl
theorem J_80_98 : jmp 80 98 = k_80_98 := by unfold jmp; rw [G_80]; rfl
theorem J_80_145 : jmp 80 145 = k_80_145 := by unfold jmp; rw [G_80]; rfl
/-- FewEnds$DirectionsReader.readLine(LFewEnds$Chart;)Z -/
theorem E_80 {x1 : Option Nat} (h : knd Sh a = 6) : evc X 80 [vR (some a), vR x1] Sh M = ev X 80 k_80_0 [some (vR (some a)), some (vR x1)] [] Sh M := by
  rw [evc_go (by rw [F_80.1]; show 2 ≤ 2; omega) (rcv_v F_80.2.1 F_80.2.2 h), mkls_of F_80.1, J_80_0]
  rfl
theorem F_81 : (mT 81).2.2.1 = 1 ∧ (mwd 81).1 = 0 ∧ mcl 81 = 6 := by decide +kernel
theorem G_81 : cdl.getD 81 [] = cd_81 := rfl
theorem J_81_0 : jmp 81 0 = k_81_0 := by unfold jmp; rw [G_81]; rfl
theorem J_81_24 : jmp 81 24 = k_81_24 := by unfold jmp; rw [G_81]; rfl
theorem J_81_28 : jmp 81 28 = k_81_28 := by unfold jmp; rw [G_81]; rfl
theorem J_81_29 : jmp 81 29 = k_81_29 := by unfold jmp; rw [G_81]; rfl
/-- FewEnds$DirectionsReader.hasRoom()Z -/
theorem E_81 (h : knd Sh a = 6) : evc X 81 [vR (some a)] Sh M = ev X 81 k_81_0 [some (vR (some a))] [] Sh M := by
  rw [evc_go (by rw [F_81.1]; show 1 ≤ 1; omega) (rcv_v F_81.2.1 F_81.2.2 h), mkls_of F_81.1, J_81_0]
  rfl
theorem F_82 : (mT 82).2.2.1 = 3 ∧ (mwd 82).1 = 0 ∧ mcl 82 = 6 := by decide +kernel
theorem G_82 : cdl.getD 82 [] = cd_82 := rfl
theorem J_82_0 : jmp 82 0 = k_82_0 := by unfold jmp; rw [G_82]; rfl
theorem J_82_10 : jmp 82 10 = k_82_10 := by unfold jmp; rw [G_82]; rfl
theorem J_82_37 : jmp 82 37 = k_82_37 := by unfold jmp; rw [G_82]; rfl
/-- FewEnds$DirectionsReader.readKnit(LFewEnds$Chart;)Z -/
theorem E_82 {x1 : Option Nat} (h : knd Sh a = 6) : evc X 82 [vR (some a), vR x1] Sh M = ev X 82 k_82_0 [some (vR (some a)), some (vR x1), none] [] Sh M := by
  rw [evc_go (by rw [F_82.1]; show 2 ≤ 3; omega) (rcv_v F_82.2.1 F_82.2.2 h), mkls_of F_82.1, J_82_0]
  rfl
theorem F_83 : (mT 83).2.2.1 = 2 ∧ (mwd 83).1 = 0 ∧ mcl 83 = 6 := by decide +kernel
theorem G_83 : cdl.getD 83 [] = cd_83 := rfl
theorem J_83_0 : jmp 83 0 = k_83_0 := by unfold jmp; rw [G_83]; rfl
theorem J_83_12 : jmp 83 12 = k_83_12 := by unfold jmp; rw [G_83]; rfl
theorem J_83_28 : jmp 83 28 = k_83_28 := by unfold jmp; rw [G_83]; rfl
theorem J_83_54 : jmp 83 54 = k_83_54 := by unfold jmp; rw [G_83]; rfl
theorem J_83_58 : jmp 83 58 = k_83_58 := by unfold jmp; rw [G_83]; rfl
theorem J_83_59 : jmp 83 59 = k_83_59 := by unfold jmp; rw [G_83]; rfl
/-- FewEnds$DirectionsReader.goName(LFewEnds$Chart;)Z -/
theorem E_83 {x1 : Option Nat} (h : knd Sh a = 6) : evc X 83 [vR (some a), vR x1] Sh M = ev X 83 k_83_0 [some (vR (some a)), some (vR x1)] [] Sh M := by
  rw [evc_go (by rw [F_83.1]; show 2 ≤ 2; omega) (rcv_v F_83.2.1 F_83.2.2 h), mkls_of F_83.1, J_83_0]
  rfl
theorem F_84 : (mT 84).2.2.1 = 1 ∧ (mwd 84).1 = 0 ∧ mcl 84 = 6 := by decide +kernel
theorem G_84 : cdl.getD 84 [] = cd_84 := rfl
theorem J_84_0 : jmp 84 0 = k_84_0 := by unfold jmp; rw [G_84]; rfl
theorem J_84_23 : jmp 84 23 = k_84_23 := by unfold jmp; rw [G_84]; rfl
theorem J_84_25 : jmp 84 25 = k_84_25 := by unfold jmp; rw [G_84]; rfl
theorem J_84_77 : jmp 84 77 = k_84_77 := by unfold jmp; rw [G_84]; rfl
theorem J_84_78 : jmp 84 78 = k_84_78 := by unfold jmp; rw [G_84]; rfl
/-- FewEnds$DirectionsReader.isName()Z -/
theorem E_84 (h : knd Sh a = 6) : evc X 84 [vR (some a)] Sh M = ev X 84 k_84_0 [some (vR (some a))] [] Sh M := by
  rw [evc_go (by rw [F_84.1]; show 1 ≤ 1; omega) (rcv_v F_84.2.1 F_84.2.2 h), mkls_of F_84.1, J_84_0]
  rfl
theorem F_85 : (mT 85).2.2.1 = 4 ∧ (mwd 85).1 = 0 ∧ mcl 85 = 4 := by decide +kernel
theorem G_85 : cdl.getD 85 [] = cd_85 := rfl
theorem J_85_0 : jmp 85 0 = k_85_0 := by unfold jmp; rw [G_85]; rfl
theorem J_85_63 : jmp 85 63 = k_85_63 := by unfold jmp; rw [G_85]; rfl
theorem J_85_64 : jmp 85 64 = k_85_64 := by unfold jmp; rw [G_85]; rfl
theorem J_85_68 : jmp 85 68 = k_85_68 := by unfold jmp; rw [G_85]; rfl
/-- FewEnds$Directions.add(III)V -/
theorem E_85 {x1 : Int} {x2 : Int} {x3 : Int} (h : knd Sh a = 4) : evc X 85 [vR (some a), vI x1, vI x2, vI x3] Sh M = ev X 85 k_85_0 [some (vR (some a)), some (vI x1), some (vI x2), some (vI x3)] [] Sh M := by
  rw [evc_go (by rw [F_85.1]; show 4 ≤ 4; omega) (rcv_v F_85.2.1 F_85.2.2 h), mkls_of F_85.1, J_85_0]
  rfl
theorem F_86 : (mT 86).2.2.1 = 2 ∧ (mwd 86).1 = 0 ∧ mcl 86 = 6 := by decide +kernel
theorem G_86 : cdl.getD 86 [] = cd_86 := rfl
theorem J_86_0 : jmp 86 0 = k_86_0 := by unfold jmp; rw [G_86]; rfl
theorem J_86_10 : jmp 86 10 = k_86_10 := by unfold jmp; rw [G_86]; rfl
/-- FewEnds$DirectionsReader.readCut(LFewEnds$Chart;)Z -/
theorem E_86 {x1 : Option Nat} (h : knd Sh a = 6) : evc X 86 [vR (some a), vR x1] Sh M = ev X 86 k_86_0 [some (vR (some a)), some (vR x1)] [] Sh M := by
  rw [evc_go (by rw [F_86.1]; show 2 ≤ 2; omega) (rcv_v F_86.2.1 F_86.2.2 h), mkls_of F_86.1, J_86_0]
  rfl
theorem F_87 : (mT 87).2.2.1 = 1 ∧ (mwd 87).1 = 0 ∧ mcl 87 = 6 := by decide +kernel
theorem G_87 : cdl.getD 87 [] = cd_87 := rfl
theorem J_87_0 : jmp 87 0 = k_87_0 := by unfold jmp; rw [G_87]; rfl
theorem J_87_18 : jmp 87 18 = k_87_18 := by unfold jmp; rw [G_87]; rfl
theorem J_87_33 : jmp 87 33 = k_87_33 := by unfold jmp; rw [G_87]; rfl
/-- FewEnds$DirectionsReader.readLoop()Z -/
theorem E_87 (h : knd Sh a = 6) : evc X 87 [vR (some a)] Sh M = ev X 87 k_87_0 [some (vR (some a))] [] Sh M := by
  rw [evc_go (by rw [F_87.1]; show 1 ≤ 1; omega) (rcv_v F_87.2.1 F_87.2.2 h), mkls_of F_87.1, J_87_0]
  rfl
theorem F_88 : (mT 88).2.2.1 = 2 ∧ (mwd 88).1 = 0 ∧ mcl 88 = 4 := by decide +kernel
theorem G_88 : cdl.getD 88 [] = cd_88 := rfl
theorem J_88_0 : jmp 88 0 = k_88_0 := by unfold jmp; rw [G_88]; rfl
/-- FewEnds$Directions.copyFrom(LFewEnds$Directions;)V -/
theorem E_88 {x1 : Option Nat} (h : knd Sh a = 4) : evc X 88 [vR (some a), vR x1] Sh M = ev X 88 k_88_0 [some (vR (some a)), some (vR x1)] [] Sh M := by
  rw [evc_go (by rw [F_88.1]; show 2 ≤ 2; omega) (rcv_v F_88.2.1 F_88.2.2 h), mkls_of F_88.1, J_88_0]
  rfl
theorem F_89 : (mT 89).2.2.1 = 2 ∧ (mwd 89).1 = 0 ∧ mcl 89 = 0 := by decide +kernel
theorem G_89 : cdl.getD 89 [] = cd_89 := rfl
theorem J_89_0 : jmp 89 0 = k_89_0 := by unfold jmp; rw [G_89]; rfl
theorem J_89_12 : jmp 89 12 = k_89_12 := by unfold jmp; rw [G_89]; rfl
theorem J_89_27 : jmp 89 27 = k_89_27 := by unfold jmp; rw [G_89]; rfl
theorem J_89_28 : jmp 89 28 = k_89_28 := by unfold jmp; rw [G_89]; rfl
/-- FewEnds.fault(I)I -/
theorem E_89 {x1 : Int} (h : knd Sh a = 0) : evc X 89 [vR (some a), vI x1] Sh M = ev X 89 k_89_0 [some (vR (some a)), some (vI x1)] [] Sh M := by
  rw [evc_go (by rw [F_89.1]; show 2 ≤ 2; omega) (rcv_v F_89.2.1 F_89.2.2 h), mkls_of F_89.1, J_89_0]
  rfl
theorem F_90 : (mT 90).2.2.1 = 2 ∧ (mwd 90).1 = 0 ∧ mcl 90 = 0 := by decide +kernel
theorem G_90 : cdl.getD 90 [] = cd_90 := rfl
theorem J_90_0 : jmp 90 0 = k_90_0 := by unfold jmp; rw [G_90]; rfl
theorem J_90_10 : jmp 90 10 = k_90_10 := by unfold jmp; rw [G_90]; rfl
theorem J_90_16 : jmp 90 16 = k_90_16 := by unfold jmp; rw [G_90]; rfl
/-- FewEnds.told(I)I -/
theorem E_90 {x1 : Int} (h : knd Sh a = 0) : evc X 90 [vR (some a), vI x1] Sh M = ev X 90 k_90_0 [some (vR (some a)), some (vI x1)] [] Sh M := by
  rw [evc_go (by rw [F_90.1]; show 2 ≤ 2; omega) (rcv_v F_90.2.1 F_90.2.2 h), mkls_of F_90.1, J_90_0]
  rfl
theorem F_91 : (mT 91).2.2.1 = 3 ∧ (mwd 91).1 = 0 ∧ mcl 91 = 0 := by decide +kernel
theorem G_91 : cdl.getD 91 [] = cd_91 := rfl
theorem J_91_0 : jmp 91 0 = k_91_0 := by unfold jmp; rw [G_91]; rfl
theorem J_91_20 : jmp 91 20 = k_91_20 := by unfold jmp; rw [G_91]; rfl
theorem J_91_26 : jmp 91 26 = k_91_26 := by unfold jmp; rw [G_91]; rfl
theorem J_91_44 : jmp 91 44 = k_91_44 := by unfold jmp; rw [G_91]; rfl
theorem J_91_62 : jmp 91 62 = k_91_62 := by unfold jmp; rw [G_91]; rfl
theorem J_91_70 : jmp 91 70 = k_91_70 := by unfold jmp; rw [G_91]; rfl
/-- FewEnds.colour(II)I -/
theorem E_91 {x1 : Int} {x2 : Int} (h : knd Sh a = 0) : evc X 91 [vR (some a), vI x1, vI x2] Sh M = ev X 91 k_91_0 [some (vR (some a)), some (vI x1), some (vI x2)] [] Sh M := by
  rw [evc_go (by rw [F_91.1]; show 3 ≤ 3; omega) (rcv_v F_91.2.1 F_91.2.2 h), mkls_of F_91.1, J_91_0]
  rfl
theorem F_92 : (mT 92).2.2.1 = 2 ∧ (mwd 92).1 = 0 ∧ mcl 92 = 2 := by decide +kernel
theorem G_92 : cdl.getD 92 [] = cd_92 := rfl
theorem J_92_0 : jmp 92 0 = k_92_0 := by unfold jmp; rw [G_92]; rfl
theorem J_92_18 : jmp 92 18 = k_92_18 := by unfold jmp; rw [G_92]; rfl
theorem J_92_19 : jmp 92 19 = k_92_19 := by unfold jmp; rw [G_92]; rfl
/-- FewEnds$Chart.hasColour(I)Z -/
theorem E_92 {x1 : Int} (h : knd Sh a = 2) : evc X 92 [vR (some a), vI x1] Sh M = ev X 92 k_92_0 [some (vR (some a)), some (vI x1)] [] Sh M := by
  rw [evc_go (by rw [F_92.1]; show 2 ≤ 2; omega) (rcv_v F_92.2.1 F_92.2.2 h), mkls_of F_92.1, J_92_0]
  rfl
theorem F_93 : (mT 93).2.2.1 = 4 ∧ (mwd 93).1 = 0 ∧ mcl 93 = 2 := by decide +kernel
theorem G_93 : cdl.getD 93 [] = cd_93 := rfl
theorem J_93_0 : jmp 93 0 = k_93_0 := by unfold jmp; rw [G_93]; rfl
theorem J_93_4 : jmp 93 4 = k_93_4 := by unfold jmp; rw [G_93]; rfl
theorem J_93_25 : jmp 93 25 = k_93_25 := by unfold jmp; rw [G_93]; rfl
theorem J_93_31 : jmp 93 31 = k_93_31 := by unfold jmp; rw [G_93]; rfl
/-- FewEnds$Chart.stitchesOf(I)I -/
theorem E_93 {x1 : Int} (h : knd Sh a = 2) : evc X 93 [vR (some a), vI x1] Sh M = ev X 93 k_93_0 [some (vR (some a)), some (vI x1), none, none] [] Sh M := by
  rw [evc_go (by rw [F_93.1]; show 2 ≤ 4; omega) (rcv_v F_93.2.1 F_93.2.2 h), mkls_of F_93.1, J_93_0]
  rfl
theorem F_94 : (mT 94).2.2.1 = 3 ∧ (mwd 94).1 = 0 ∧ mcl 94 = 0 := by decide +kernel
theorem G_94 : cdl.getD 94 [] = cd_94 := rfl
theorem J_94_0 : jmp 94 0 = k_94_0 := by unfold jmp; rw [G_94]; rfl
theorem J_94_20 : jmp 94 20 = k_94_20 := by unfold jmp; rw [G_94]; rfl
theorem J_94_26 : jmp 94 26 = k_94_26 := by unfold jmp; rw [G_94]; rfl
theorem J_94_44 : jmp 94 44 = k_94_44 := by unfold jmp; rw [G_94]; rfl
theorem J_94_62 : jmp 94 62 = k_94_62 := by unfold jmp; rw [G_94]; rfl
theorem J_94_71 : jmp 94 71 = k_94_71 := by unfold jmp; rw [G_94]; rfl
/-- FewEnds.stitch(II)I -/
theorem E_94 {x1 : Int} {x2 : Int} (h : knd Sh a = 0) : evc X 94 [vR (some a), vI x1, vI x2] Sh M = ev X 94 k_94_0 [some (vR (some a)), some (vI x1), some (vI x2)] [] Sh M := by
  rw [evc_go (by rw [F_94.1]; show 3 ≤ 3; omega) (rcv_v F_94.2.1 F_94.2.2 h), mkls_of F_94.1, J_94_0]
  rfl
theorem F_95 : (mT 95).2.2.1 = 2 ∧ (mwd 95).1 = 0 ∧ mcl 95 = 2 := by decide +kernel
theorem G_95 : cdl.getD 95 [] = cd_95 := rfl
theorem J_95_0 : jmp 95 0 = k_95_0 := by unfold jmp; rw [G_95]; rfl
theorem J_95_16 : jmp 95 16 = k_95_16 := by unfold jmp; rw [G_95]; rfl
theorem J_95_17 : jmp 95 17 = k_95_17 := by unfold jmp; rw [G_95]; rfl
/-- FewEnds$Chart.hasStitch(I)Z -/
theorem E_95 {x1 : Int} (h : knd Sh a = 2) : evc X 95 [vR (some a), vI x1] Sh M = ev X 95 k_95_0 [some (vR (some a)), some (vI x1)] [] Sh M := by
  rw [evc_go (by rw [F_95.1]; show 2 ≤ 2; omega) (rcv_v F_95.2.1 F_95.2.2 h), mkls_of F_95.1, J_95_0]
  rfl
theorem F_96 : (mT 96).2.2.1 = 3 ∧ (mwd 96).1 = 0 ∧ mcl 96 = 0 := by decide +kernel
theorem G_96 : cdl.getD 96 [] = cd_96 := rfl
theorem J_96_0 : jmp 96 0 = k_96_0 := by unfold jmp; rw [G_96]; rfl
theorem J_96_28 : jmp 96 28 = k_96_28 := by unfold jmp; rw [G_96]; rfl
theorem J_96_34 : jmp 96 34 = k_96_34 := by unfold jmp; rw [G_96]; rfl
/-- FewEnds.at(II)I -/
theorem E_96 {x1 : Int} {x2 : Int} (h : knd Sh a = 0) : evc X 96 [vR (some a), vI x1, vI x2] Sh M = ev X 96 k_96_0 [some (vR (some a)), some (vI x1), some (vI x2)] [] Sh M := by
  rw [evc_go (by rw [F_96.1]; show 3 ≤ 3; omega) (rcv_v F_96.2.1 F_96.2.2 h), mkls_of F_96.1, J_96_0]
  rfl
theorem F_97 : (mT 97).2.2.1 = 2 ∧ (mwd 97).1 = 0 ∧ mcl 97 = 2 := by decide +kernel
theorem G_97 : cdl.getD 97 [] = cd_97 := rfl
theorem J_97_0 : jmp 97 0 = k_97_0 := by unfold jmp; rw [G_97]; rfl
theorem J_97_18 : jmp 97 18 = k_97_18 := by unfold jmp; rw [G_97]; rfl
theorem J_97_19 : jmp 97 19 = k_97_19 := by unfold jmp; rw [G_97]; rfl
/-- FewEnds$Chart.hasRow(I)Z -/
theorem E_97 {x1 : Int} (h : knd Sh a = 2) : evc X 97 [vR (some a), vI x1] Sh M = ev X 97 k_97_0 [some (vR (some a)), some (vI x1)] [] Sh M := by
  rw [evc_go (by rw [F_97.1]; show 2 ≤ 2; omega) (rcv_v F_97.2.1 F_97.2.2 h), mkls_of F_97.1, J_97_0]
  rfl
theorem F_98 : (mT 98).2.2.1 = 3 ∧ (mwd 98).1 = 0 ∧ mcl 98 = 0 := by decide +kernel
theorem G_98 : cdl.getD 98 [] = cd_98 := rfl
theorem J_98_0 : jmp 98 0 = k_98_0 := by unfold jmp; rw [G_98]; rfl
theorem J_98_18 : jmp 98 18 = k_98_18 := by unfold jmp; rw [G_98]; rfl
/-- FewEnds.lawful(II)I -/
theorem E_98 {x1 : Int} {x2 : Int} (h : knd Sh a = 0) : evc X 98 [vR (some a), vI x1, vI x2] Sh M = ev X 98 k_98_0 [some (vR (some a)), some (vI x1), some (vI x2)] [] Sh M := by
  rw [evc_go (by rw [F_98.1]; show 3 ≤ 3; omega) (rcv_v F_98.2.1 F_98.2.2 h), mkls_of F_98.1, J_98_0]
  rfl
theorem F_99 : (mT 99).2.2.1 = 3 ∧ (mwd 99).1 = 0 ∧ mcl 99 = 2 := by decide +kernel
theorem G_99 : cdl.getD 99 [] = cd_99 := rfl
theorem J_99_0 : jmp 99 0 = k_99_0 := by unfold jmp; rw [G_99]; rfl
theorem J_99_21 : jmp 99 21 = k_99_21 := by unfold jmp; rw [G_99]; rfl
theorem J_99_22 : jmp 99 22 = k_99_22 := by unfold jmp; rw [G_99]; rfl
/-- FewEnds$Chart.hasCouple(II)Z -/
theorem E_99 {x1 : Int} {x2 : Int} (h : knd Sh a = 2) : evc X 99 [vR (some a), vI x1, vI x2] Sh M = ev X 99 k_99_0 [some (vR (some a)), some (vI x1), some (vI x2)] [] Sh M := by
  rw [evc_go (by rw [F_99.1]; show 3 ≤ 3; omega) (rcv_v F_99.2.1 F_99.2.2 h), mkls_of F_99.1, J_99_0]
  rfl
theorem F_100 : (mT 100).2.2.1 = 5 ∧ (mwd 100).1 = 0 ∧ mcl 100 = 2 := by decide +kernel
theorem G_100 : cdl.getD 100 [] = cd_100 := rfl
theorem J_100_0 : jmp 100 0 = k_100_0 := by unfold jmp; rw [G_100]; rfl
theorem J_100_24 : jmp 100 24 = k_100_24 := by unfold jmp; rw [G_100]; rfl
theorem J_100_26 : jmp 100 26 = k_100_26 := by unfold jmp; rw [G_100]; rfl
theorem J_100_38 : jmp 100 38 = k_100_38 := by unfold jmp; rw [G_100]; rfl
theorem J_100_64 : jmp 100 64 = k_100_64 := by unfold jmp; rw [G_100]; rfl
theorem J_100_76 : jmp 100 76 = k_100_76 := by unfold jmp; rw [G_100]; rfl
theorem J_100_90 : jmp 100 90 = k_100_90 := by unfold jmp; rw [G_100]; rfl
theorem J_100_91 : jmp 100 91 = k_100_91 := by unfold jmp; rw [G_100]; rfl
theorem J_100_92 : jmp 100 92 = k_100_92 := by unfold jmp; rw [G_100]; rfl
theorem J_100_122 : jmp 100 122 = k_100_122 := by unfold jmp; rw [G_100]; rfl
theorem J_100_123 : jmp 100 123 = k_100_123 := by unfold jmp; rw [G_100]; rfl
theorem J_100_151 : jmp 100 151 = k_100_151 := by unfold jmp; rw [G_100]; rfl
theorem J_100_152 : jmp 100 152 = k_100_152 := by unfold jmp; rw [G_100]; rfl
/-- FewEnds$Chart.wayBetween(II)I -/
theorem E_100 {x1 : Int} {x2 : Int} (h : knd Sh a = 2) : evc X 100 [vR (some a), vI x1, vI x2] Sh M = ev X 100 k_100_0 [some (vR (some a)), some (vI x1), some (vI x2), none, none] [] Sh M := by
  rw [evc_go (by rw [F_100.1]; show 3 ≤ 5; omega) (rcv_v F_100.2.1 F_100.2.2 h), mkls_of F_100.1, J_100_0]
  rfl
theorem F_102 : (mT 102).2.2.1 = 3 ∧ (mwd 102).1 = 0 ∧ mcl 102 = 0 := by decide +kernel
theorem G_102 : cdl.getD 102 [] = cd_102 := rfl
theorem J_102_0 : jmp 102 0 = k_102_0 := by unfold jmp; rw [G_102]; rfl
theorem J_102_18 : jmp 102 18 = k_102_18 := by unfold jmp; rw [G_102]; rfl
theorem J_102_37 : jmp 102 37 = k_102_37 := by unfold jmp; rw [G_102]; rfl
/-- FewEnds.cost(II)I -/
theorem E_102 {x1 : Int} {x2 : Int} (h : knd Sh a = 0) : evc X 102 [vR (some a), vI x1, vI x2] Sh M = ev X 102 k_102_0 [some (vR (some a)), some (vI x1), some (vI x2)] [] Sh M := by
  rw [evc_go (by rw [F_102.1]; show 3 ≤ 3; omega) (rcv_v F_102.2.1 F_102.2.2 h), mkls_of F_102.1, J_102_0]
  rfl
theorem F_103 : (mT 103).2.2.1 = 3 ∧ (mwd 103).1 = 0 ∧ mcl 103 = 2 := by decide +kernel
theorem G_103 : cdl.getD 103 [] = cd_103 := rfl
theorem J_103_0 : jmp 103 0 = k_103_0 := by unfold jmp; rw [G_103]; rfl
/-- FewEnds$Chart.priceOf(II)I -/
theorem E_103 {x1 : Int} {x2 : Int} (h : knd Sh a = 2) : evc X 103 [vR (some a), vI x1, vI x2] Sh M = ev X 103 k_103_0 [some (vR (some a)), some (vI x1), some (vI x2)] [] Sh M := by
  rw [evc_go (by rw [F_103.1]; show 3 ≤ 3; omega) (rcv_v F_103.2.1 F_103.2.2 h), mkls_of F_103.1, J_103_0]
  rfl
theorem F_104 : (mT 104).2.2.1 = 8 ∧ (mwd 104).1 = 0 ∧ mcl 104 = 2 := by decide +kernel
theorem G_104 : cdl.getD 104 [] = cd_104 := rfl
theorem J_104_0 : jmp 104 0 = k_104_0 := by unfold jmp; rw [G_104]; rfl
theorem J_104_13 : jmp 104 13 = k_104_13 := by unfold jmp; rw [G_104]; rfl
theorem J_104_25 : jmp 104 25 = k_104_25 := by unfold jmp; rw [G_104]; rfl
theorem J_104_64 : jmp 104 64 = k_104_64 := by unfold jmp; rw [G_104]; rfl
theorem J_104_102 : jmp 104 102 = k_104_102 := by unfold jmp; rw [G_104]; rfl
theorem J_104_103 : jmp 104 103 = k_104_103 := by unfold jmp; rw [G_104]; rfl
theorem J_104_116 : jmp 104 116 = k_104_116 := by unfold jmp; rw [G_104]; rfl
/-- FewEnds$Chart.priceBy(III)I -/
theorem E_104 {x1 : Int} {x2 : Int} {x3 : Int} (h : knd Sh a = 2) : evc X 104 [vR (some a), vI x1, vI x2, vI x3] Sh M = ev X 104 k_104_0 [some (vR (some a)), some (vI x1), some (vI x2), some (vI x3), none, none, none, none] [] Sh M := by
  rw [evc_go (by rw [F_104.1]; show 4 ≤ 8; omega) (rcv_v F_104.2.1 F_104.2.2 h), mkls_of F_104.1, J_104_0]
  rfl
theorem F_105 : (mT 105).2.2.1 = 3 ∧ (mwd 105).1 = 0 ∧ mcl 105 = 0 := by decide +kernel
theorem G_105 : cdl.getD 105 [] = cd_105 := rfl
theorem J_105_0 : jmp 105 0 = k_105_0 := by unfold jmp; rw [G_105]; rfl
theorem J_105_18 : jmp 105 18 = k_105_18 := by unfold jmp; rw [G_105]; rfl
theorem J_105_37 : jmp 105 37 = k_105_37 := by unfold jmp; rw [G_105]; rfl
/-- FewEnds.yarnOf(II)I -/
theorem E_105 {x1 : Int} {x2 : Int} (h : knd Sh a = 0) : evc X 105 [vR (some a), vI x1, vI x2] Sh M = ev X 105 k_105_0 [some (vR (some a)), some (vI x1), some (vI x2)] [] Sh M := by
  rw [evc_go (by rw [F_105.1]; show 3 ≤ 3; omega) (rcv_v F_105.2.1 F_105.2.2 h), mkls_of F_105.1, J_105_0]
  rfl
theorem F_106 : (mT 106).2.2.1 = 4 ∧ (mwd 106).1 = 0 ∧ mcl 106 = 2 := by decide +kernel
theorem G_106 : cdl.getD 106 [] = cd_106 := rfl
theorem J_106_0 : jmp 106 0 = k_106_0 := by unfold jmp; rw [G_106]; rfl
theorem J_106_37 : jmp 106 37 = k_106_37 := by unfold jmp; rw [G_106]; rfl
theorem J_106_47 : jmp 106 47 = k_106_47 := by unfold jmp; rw [G_106]; rfl
theorem J_106_63 : jmp 106 63 = k_106_63 := by unfold jmp; rw [G_106]; rfl
theorem J_106_64 : jmp 106 64 = k_106_64 := by unfold jmp; rw [G_106]; rfl
/-- FewEnds$Chart.strandOf(II)I -/
theorem E_106 {x1 : Int} {x2 : Int} (h : knd Sh a = 2) : evc X 106 [vR (some a), vI x1, vI x2] Sh M = ev X 106 k_106_0 [some (vR (some a)), some (vI x1), some (vI x2), none] [] Sh M := by
  rw [evc_go (by rw [F_106.1]; show 3 ≤ 4; omega) (rcv_v F_106.2.1 F_106.2.2 h), mkls_of F_106.1, J_106_0]
  rfl
theorem F_107 : (mT 107).2.2.1 = 3 ∧ (mwd 107).1 = 0 ∧ mcl 107 = 0 := by decide +kernel
theorem G_107 : cdl.getD 107 [] = cd_107 := rfl
theorem J_107_0 : jmp 107 0 = k_107_0 := by unfold jmp; rw [G_107]; rfl
theorem J_107_18 : jmp 107 18 = k_107_18 := by unfold jmp; rw [G_107]; rfl
theorem J_107_42 : jmp 107 42 = k_107_42 := by unfold jmp; rw [G_107]; rfl
theorem J_107_49 : jmp 107 49 = k_107_49 := by unfold jmp; rw [G_107]; rfl
/-- FewEnds.link(II)Z -/
theorem E_107 {x1 : Int} {x2 : Int} (h : knd Sh a = 0) : evc X 107 [vR (some a), vI x1, vI x2] Sh M = ev X 107 k_107_0 [some (vR (some a)), some (vI x1), some (vI x2)] [] Sh M := by
  rw [evc_go (by rw [F_107.1]; show 3 ≤ 3; omega) (rcv_v F_107.2.1 F_107.2.2 h), mkls_of F_107.1, J_107_0]
  rfl
theorem F_108 : (mT 108).2.2.1 = 3 ∧ (mwd 108).1 = 0 ∧ mcl 108 = 3 := by decide +kernel
theorem G_108 : cdl.getD 108 [] = cd_108 := rfl
theorem J_108_0 : jmp 108 0 = k_108_0 := by unfold jmp; rw [G_108]; rfl
theorem J_108_33 : jmp 108 33 = k_108_33 := by unfold jmp; rw [G_108]; rfl
theorem J_108_34 : jmp 108 34 = k_108_34 := by unfold jmp; rw [G_108]; rfl
/-- FewEnds$Plan.isOpen(II)Z -/
theorem E_108 {x1 : Int} {x2 : Int} (h : knd Sh a = 3) : evc X 108 [vR (some a), vI x1, vI x2] Sh M = ev X 108 k_108_0 [some (vR (some a)), some (vI x1), some (vI x2)] [] Sh M := by
  rw [evc_go (by rw [F_108.1]; show 3 ≤ 3; omega) (rcv_v F_108.2.1 F_108.2.2 h), mkls_of F_108.1, J_108_0]
  rfl
theorem F_109 : (mT 109).2.2.1 = 3 ∧ (mwd 109).1 = 0 ∧ mcl 109 = 3 := by decide +kernel
theorem G_109 : cdl.getD 109 [] = cd_109 := rfl
theorem J_109_0 : jmp 109 0 = k_109_0 := by unfold jmp; rw [G_109]; rfl
theorem J_109_19 : jmp 109 19 = k_109_19 := by unfold jmp; rw [G_109]; rfl
theorem J_109_20 : jmp 109 20 = k_109_20 := by unfold jmp; rw [G_109]; rfl
/-- FewEnds$Plan.isCouple(II)Z -/
theorem E_109 {x1 : Int} {x2 : Int} (h : knd Sh a = 3) : evc X 109 [vR (some a), vI x1, vI x2] Sh M = ev X 109 k_109_0 [some (vR (some a)), some (vI x1), some (vI x2)] [] Sh M := by
  rw [evc_go (by rw [F_109.1]; show 3 ≤ 3; omega) (rcv_v F_109.2.1 F_109.2.2 h), mkls_of F_109.1, J_109_0]
  rfl
theorem F_110 : (mT 110).2.2.1 = 3 ∧ (mwd 110).1 = 0 ∧ mcl 110 = 3 := by decide +kernel
theorem G_110 : cdl.getD 110 [] = cd_110 := rfl
theorem J_110_0 : jmp 110 0 = k_110_0 := by unfold jmp; rw [G_110]; rfl
theorem J_110_23 : jmp 110 23 = k_110_23 := by unfold jmp; rw [G_110]; rfl
/-- FewEnds$Plan.join(II)V -/
theorem E_110 {x1 : Int} {x2 : Int} (h : knd Sh a = 3) : evc X 110 [vR (some a), vI x1, vI x2] Sh M = ev X 110 k_110_0 [some (vR (some a)), some (vI x1), some (vI x2)] [] Sh M := by
  rw [evc_go (by rw [F_110.1]; show 3 ≤ 3; omega) (rcv_v F_110.2.1 F_110.2.2 h), mkls_of F_110.1, J_110_0]
  rfl
theorem F_111 : (mT 111).2.2.1 = 2 ∧ (mwd 111).1 = 0 ∧ mcl 111 = 0 := by decide +kernel
theorem G_111 : cdl.getD 111 [] = cd_111 := rfl
theorem J_111_0 : jmp 111 0 = k_111_0 := by unfold jmp; rw [G_111]; rfl
theorem J_111_17 : jmp 111 17 = k_111_17 := by unfold jmp; rw [G_111]; rfl
theorem J_111_37 : jmp 111 37 = k_111_37 := by unfold jmp; rw [G_111]; rfl
/-- FewEnds.unlink(I)Z -/
theorem E_111 {x1 : Int} (h : knd Sh a = 0) : evc X 111 [vR (some a), vI x1] Sh M = ev X 111 k_111_0 [some (vR (some a)), some (vI x1)] [] Sh M := by
  rw [evc_go (by rw [F_111.1]; show 2 ≤ 2; omega) (rcv_v F_111.2.1 F_111.2.2 h), mkls_of F_111.1, J_111_0]
  rfl
theorem F_112 : (mT 112).2.2.1 = 3 ∧ (mwd 112).1 = 0 ∧ mcl 112 = 3 := by decide +kernel
theorem G_112 : cdl.getD 112 [] = cd_112 := rfl
theorem J_112_0 : jmp 112 0 = k_112_0 := by unfold jmp; rw [G_112]; rfl
theorem J_112_29 : jmp 112 29 = k_112_29 := by unfold jmp; rw [G_112]; rfl
/-- FewEnds$Plan.part(I)V -/
theorem E_112 {x1 : Int} (h : knd Sh a = 3) : evc X 112 [vR (some a), vI x1] Sh M = ev X 112 k_112_0 [some (vR (some a)), some (vI x1), none] [] Sh M := by
  rw [evc_go (by rw [F_112.1]; show 2 ≤ 3; omega) (rcv_v F_112.2.1 F_112.2.2 h), mkls_of F_112.1, J_112_0]
  rfl
theorem F_113 : (mT 113).2.2.1 = 2 ∧ (mwd 113).1 = 0 ∧ mcl 113 = 3 := by decide +kernel
theorem G_113 : cdl.getD 113 [] = cd_113 := rfl
theorem J_113_0 : jmp 113 0 = k_113_0 := by unfold jmp; rw [G_113]; rfl
theorem J_113_19 : jmp 113 19 = k_113_19 := by unfold jmp; rw [G_113]; rfl
theorem J_113_20 : jmp 113 20 = k_113_20 := by unfold jmp; rw [G_113]; rfl
/-- FewEnds$Plan.after(I)I -/
theorem E_113 {x1 : Int} (h : knd Sh a = 3) : evc X 113 [vR (some a), vI x1] Sh M = ev X 113 k_113_0 [some (vR (some a)), some (vI x1)] [] Sh M := by
  rw [evc_go (by rw [F_113.1]; show 2 ≤ 2; omega) (rcv_v F_113.2.1 F_113.2.2 h), mkls_of F_113.1, J_113_0]
  rfl
theorem F_114 : (mT 114).2.2.1 = 1 ∧ (mwd 114).1 = 0 ∧ mcl 114 = 0 := by decide +kernel
theorem G_114 : cdl.getD 114 [] = cd_114 := rfl
theorem J_114_0 : jmp 114 0 = k_114_0 := by unfold jmp; rw [G_114]; rfl
/-- FewEnds.clear()Z -/
theorem E_114 (h : knd Sh a = 0) : evc X 114 [vR (some a)] Sh M = ev X 114 k_114_0 [some (vR (some a))] [] Sh M := by
  rw [evc_go (by rw [F_114.1]; show 1 ≤ 1; omega) (rcv_v F_114.2.1 F_114.2.2 h), mkls_of F_114.1, J_114_0]
  rfl
theorem F_115 : (mT 115).2.2.1 = 4 ∧ (mwd 115).1 = 0 ∧ mcl 115 = 0 := by decide +kernel
theorem G_115 : cdl.getD 115 [] = cd_115 := rfl
theorem J_115_0 : jmp 115 0 = k_115_0 := by unfold jmp; rw [G_115]; rfl
theorem J_115_20 : jmp 115 20 = k_115_20 := by unfold jmp; rw [G_115]; rfl
theorem J_115_26 : jmp 115 26 = k_115_26 := by unfold jmp; rw [G_115]; rfl
theorem J_115_39 : jmp 115 39 = k_115_39 := by unfold jmp; rw [G_115]; rfl
theorem J_115_56 : jmp 115 56 = k_115_56 := by unfold jmp; rw [G_115]; rfl
theorem J_115_71 : jmp 115 71 = k_115_71 := by unfold jmp; rw [G_115]; rfl
theorem J_115_87 : jmp 115 87 = k_115_87 := by unfold jmp; rw [G_115]; rfl
/-- FewEnds.plan(II)Z -/
theorem E_115 {x1 : Int} {x2 : Int} (h : knd Sh a = 0) : evc X 115 [vR (some a), vI x1, vI x2] Sh M = ev X 115 k_115_0 [some (vR (some a)), some (vI x1), some (vI x2), none] [] Sh M := by
  rw [evc_go (by rw [F_115.1]; show 3 ≤ 4; omega) (rcv_v F_115.2.1 F_115.2.2 h), mkls_of F_115.1, J_115_0]
  rfl
theorem F_116 : (mT 116).2.2.1 = 8 ∧ (mwd 116).1 = 0 ∧ mcl 116 = 0 := by decide +kernel
theorem G_116 : cdl.getD 116 [] = cd_116 := rfl
theorem J_116_0 : jmp 116 0 = k_116_0 := by unfold jmp; rw [G_116]; rfl
theorem J_116_2 : jmp 116 2 = k_116_2 := by unfold jmp; rw [G_116]; rfl
theorem J_116_56 : jmp 116 56 = k_116_56 := by unfold jmp; rw [G_116]; rfl
theorem J_116_58 : jmp 116 58 = k_116_58 := by unfold jmp; rw [G_116]; rfl
theorem J_116_64 : jmp 116 64 = k_116_64 := by unfold jmp; rw [G_116]; rfl
/-- FewEnds.holdsCouples(LFewEnds$Tray;I)Z -/
theorem E_116 {x1 : Option Nat} {x2 : Int} (h : knd Sh a = 0) : evc X 116 [vR (some a), vR x1, vI x2] Sh M = ev X 116 k_116_0 [some (vR (some a)), some (vR x1), some (vI x2), none, none, none, none, none] [] Sh M := by
  rw [evc_go (by rw [F_116.1]; show 3 ≤ 8; omega) (rcv_v F_116.2.1 F_116.2.2 h), mkls_of F_116.1, J_116_0]
  rfl
theorem F_117 : (mT 117).2.2.1 = 6 ∧ (mwd 117).1 = 0 ∧ mcl 117 = 0 := by decide +kernel
theorem G_117 : cdl.getD 117 [] = cd_117 := rfl
theorem J_117_0 : jmp 117 0 = k_117_0 := by unfold jmp; rw [G_117]; rfl
theorem J_117_9 : jmp 117 9 = k_117_9 := by unfold jmp; rw [G_117]; rfl
theorem J_117_64 : jmp 117 64 = k_117_64 := by unfold jmp; rw [G_117]; rfl
theorem J_117_66 : jmp 117 66 = k_117_66 := by unfold jmp; rw [G_117]; rfl
theorem J_117_83 : jmp 117 83 = k_117_83 := by unfold jmp; rw [G_117]; rfl
/-- FewEnds.canBeLinked(LFewEnds$Tray;I)Z -/
theorem E_117 {x1 : Option Nat} {x2 : Int} (h : knd Sh a = 0) : evc X 117 [vR (some a), vR x1, vI x2] Sh M = ev X 117 k_117_0 [some (vR (some a)), some (vR x1), some (vI x2), none, none, none] [] Sh M := by
  rw [evc_go (by rw [F_117.1]; show 3 ≤ 6; omega) (rcv_v F_117.2.1 F_117.2.2 h), mkls_of F_117.1, J_117_0]
  rfl
theorem F_118 : (mT 118).2.2.1 = 2 ∧ (mwd 118).1 = 0 ∧ mcl 118 = 3 := by decide +kernel
theorem G_118 : cdl.getD 118 [] = cd_118 := rfl
theorem J_118_0 : jmp 118 0 = k_118_0 := by unfold jmp; rw [G_118]; rfl
/-- FewEnds$Plan.copyFrom(LFewEnds$Plan;)V -/
theorem E_118 {x1 : Option Nat} (h : knd Sh a = 3) : evc X 118 [vR (some a), vR x1] Sh M = ev X 118 k_118_0 [some (vR (some a)), some (vR x1)] [] Sh M := by
  rw [evc_go (by rw [F_118.1]; show 2 ≤ 2; omega) (rcv_v F_118.2.1 F_118.2.2 h), mkls_of F_118.1, J_118_0]
  rfl
theorem F_119 : (mT 119).2.2.1 = 2 ∧ (mwd 119).1 = 0 ∧ mcl 119 = 0 := by decide +kernel
theorem G_119 : cdl.getD 119 [] = cd_119 := rfl
theorem J_119_0 : jmp 119 0 = k_119_0 := by unfold jmp; rw [G_119]; rfl
theorem J_119_17 : jmp 119 17 = k_119_17 := by unfold jmp; rw [G_119]; rfl
theorem J_119_39 : jmp 119 39 = k_119_39 := by unfold jmp; rw [G_119]; rfl
theorem J_119_52 : jmp 119 52 = k_119_52 := by unfold jmp; rw [G_119]; rfl
/-- FewEnds.goes(I)I -/
theorem E_119 {x1 : Int} (h : knd Sh a = 0) : evc X 119 [vR (some a), vI x1] Sh M = ev X 119 k_119_0 [some (vR (some a)), some (vI x1)] [] Sh M := by
  rw [evc_go (by rw [F_119.1]; show 2 ≤ 2; omega) (rcv_v F_119.2.1 F_119.2.2 h), mkls_of F_119.1, J_119_0]
  rfl
theorem F_120 : (mT 120).2.2.1 = 2 ∧ (mwd 120).1 = 0 ∧ mcl 120 = 0 := by decide +kernel
theorem G_120 : cdl.getD 120 [] = cd_120 := rfl
theorem J_120_0 : jmp 120 0 = k_120_0 := by unfold jmp; rw [G_120]; rfl
theorem J_120_17 : jmp 120 17 = k_120_17 := by unfold jmp; rw [G_120]; rfl
theorem J_120_39 : jmp 120 39 = k_120_39 := by unfold jmp; rw [G_120]; rfl
theorem J_120_52 : jmp 120 52 = k_120_52 := by unfold jmp; rw [G_120]; rfl
/-- FewEnds.comes(I)I -/
theorem E_120 {x1 : Int} (h : knd Sh a = 0) : evc X 120 [vR (some a), vI x1] Sh M = ev X 120 k_120_0 [some (vR (some a)), some (vI x1)] [] Sh M := by
  rw [evc_go (by rw [F_120.1]; show 2 ≤ 2; omega) (rcv_v F_120.2.1 F_120.2.2 h), mkls_of F_120.1, J_120_0]
  rfl
theorem F_121 : (mT 121).2.2.1 = 2 ∧ (mwd 121).1 = 0 ∧ mcl 121 = 0 := by decide +kernel
theorem G_121 : cdl.getD 121 [] = cd_121 := rfl
theorem J_121_0 : jmp 121 0 = k_121_0 := by unfold jmp; rw [G_121]; rfl
theorem J_121_22 : jmp 121 22 = k_121_22 := by unfold jmp; rw [G_121]; rfl
/-- FewEnds.threads(I)I -/
theorem E_121 {x1 : Int} (h : knd Sh a = 0) : evc X 121 [vR (some a), vI x1] Sh M = ev X 121 k_121_0 [some (vR (some a)), some (vI x1)] [] Sh M := by
  rw [evc_go (by rw [F_121.1]; show 2 ≤ 2; omega) (rcv_v F_121.2.1 F_121.2.2 h), mkls_of F_121.1, J_121_0]
  rfl
theorem F_122 : (mT 122).2.2.1 = 5 ∧ (mwd 122).1 = 0 ∧ mcl 122 = 3 := by decide +kernel
theorem G_122 : cdl.getD 122 [] = cd_122 := rfl
theorem J_122_0 : jmp 122 0 = k_122_0 := by unfold jmp; rw [G_122]; rfl
theorem J_122_5 : jmp 122 5 = k_122_5 := by unfold jmp; rw [G_122]; rfl
theorem J_122_41 : jmp 122 41 = k_122_41 := by unfold jmp; rw [G_122]; rfl
theorem J_122_44 : jmp 122 44 = k_122_44 := by unfold jmp; rw [G_122]; rfl
theorem J_122_50 : jmp 122 50 = k_122_50 := by unfold jmp; rw [G_122]; rfl
/-- FewEnds$Plan.threadsOf(LFewEnds$Chart;I)I -/
theorem E_122 {x1 : Option Nat} {x2 : Int} (h : knd Sh a = 3) : evc X 122 [vR (some a), vR x1, vI x2] Sh M = ev X 122 k_122_0 [some (vR (some a)), some (vR x1), some (vI x2), none, none] [] Sh M := by
  rw [evc_go (by rw [F_122.1]; show 3 ≤ 5; omega) (rcv_v F_122.2.1 F_122.2.2 h), mkls_of F_122.1, J_122_0]
  rfl
theorem F_123 : (mT 123).2.2.1 = 4 ∧ (mwd 123).1 = 0 ∧ mcl 123 = 0 := by decide +kernel
theorem G_123 : cdl.getD 123 [] = cd_123 := rfl
theorem J_123_0 : jmp 123 0 = k_123_0 := by unfold jmp; rw [G_123]; rfl
theorem J_123_8 : jmp 123 8 = k_123_8 := by unfold jmp; rw [G_123]; rfl
theorem J_123_20 : jmp 123 20 = k_123_20 := by unfold jmp; rw [G_123]; rfl
theorem J_123_35 : jmp 123 35 = k_123_35 := by unfold jmp; rw [G_123]; rfl
theorem J_123_41 : jmp 123 41 = k_123_41 := by unfold jmp; rw [G_123]; rfl
theorem J_123_72 : jmp 123 72 = k_123_72 := by unfold jmp; rw [G_123]; rfl
theorem J_123_86 : jmp 123 86 = k_123_86 := by unfold jmp; rw [G_123]; rfl
theorem J_123_92 : jmp 123 92 = k_123_92 := by unfold jmp; rw [G_123]; rfl
theorem J_123_105 : jmp 123 105 = k_123_105 := by unfold jmp; rw [G_123]; rfl
theorem J_123_118 : jmp 123 118 = k_123_118 := by unfold jmp; rw [G_123]; rfl
/-- FewEnds.thread(II)I -/
theorem E_123 {x1 : Int} {x2 : Int} (h : knd Sh a = 0) : evc X 123 [vR (some a), vI x1, vI x2] Sh M = ev X 123 k_123_0 [some (vR (some a)), some (vI x1), some (vI x2), none] [] Sh M := by
  rw [evc_go (by rw [F_123.1]; show 3 ≤ 4; omega) (rcv_v F_123.2.1 F_123.2.2 h), mkls_of F_123.1, J_123_0]
  rfl
theorem F_124 : (mT 124).2.2.1 = 5 ∧ (mwd 124).1 = 0 ∧ mcl 124 = 3 := by decide +kernel
theorem G_124 : cdl.getD 124 [] = cd_124 := rfl
theorem J_124_0 : jmp 124 0 = k_124_0 := by unfold jmp; rw [G_124]; rfl
theorem J_124_5 : jmp 124 5 = k_124_5 := by unfold jmp; rw [G_124]; rfl
theorem J_124_33 : jmp 124 33 = k_124_33 := by unfold jmp; rw [G_124]; rfl
theorem J_124_36 : jmp 124 36 = k_124_36 := by unfold jmp; rw [G_124]; rfl
theorem J_124_42 : jmp 124 42 = k_124_42 := by unfold jmp; rw [G_124]; rfl
/-- FewEnds$Plan.firstOf(LFewEnds$Chart;I)I -/
theorem E_124 {x1 : Option Nat} {x2 : Int} (h : knd Sh a = 3) : evc X 124 [vR (some a), vR x1, vI x2] Sh M = ev X 124 k_124_0 [some (vR (some a)), some (vR x1), some (vI x2), none, none] [] Sh M := by
  rw [evc_go (by rw [F_124.1]; show 3 ≤ 5; omega) (rcv_v F_124.2.1 F_124.2.2 h), mkls_of F_124.1, J_124_0]
  rfl
theorem F_125 : (mT 125).2.2.1 = 4 ∧ (mwd 125).1 = 0 ∧ mcl 125 = 3 := by decide +kernel
theorem G_125 : cdl.getD 125 [] = cd_125 := rfl
theorem J_125_0 : jmp 125 0 = k_125_0 := by unfold jmp; rw [G_125]; rfl
theorem J_125_4 : jmp 125 4 = k_125_4 := by unfold jmp; rw [G_125]; rfl
theorem J_125_31 : jmp 125 31 = k_125_31 := by unfold jmp; rw [G_125]; rfl
/-- FewEnds$Plan.lastFrom(I)I -/
theorem E_125 {x1 : Int} (h : knd Sh a = 3) : evc X 125 [vR (some a), vI x1] Sh M = ev X 125 k_125_0 [some (vR (some a)), some (vI x1), none, none] [] Sh M := by
  rw [evc_go (by rw [F_125.1]; show 2 ≤ 4; omega) (rcv_v F_125.2.1 F_125.2.2 h), mkls_of F_125.1, J_125_0]
  rfl
theorem F_126 : (mT 126).2.2.1 = 5 ∧ (mwd 126).1 = 0 ∧ mcl 126 = 3 := by decide +kernel
theorem G_126 : cdl.getD 126 [] = cd_126 := rfl
theorem J_126_0 : jmp 126 0 = k_126_0 := by unfold jmp; rw [G_126]; rfl
theorem J_126_7 : jmp 126 7 = k_126_7 := by unfold jmp; rw [G_126]; rfl
theorem J_126_34 : jmp 126 34 = k_126_34 := by unfold jmp; rw [G_126]; rfl
/-- FewEnds$Plan.stitchesFrom(I)I -/
theorem E_126 {x1 : Int} (h : knd Sh a = 3) : evc X 126 [vR (some a), vI x1] Sh M = ev X 126 k_126_0 [some (vR (some a)), some (vI x1), none, none, none] [] Sh M := by
  rw [evc_go (by rw [F_126.1]; show 2 ≤ 5; omega) (rcv_v F_126.2.1 F_126.2.2 h), mkls_of F_126.1, J_126_0]
  rfl
theorem F_127 : (mT 127).2.2.1 = 6 ∧ (mwd 127).1 = 0 ∧ mcl 127 = 3 := by decide +kernel
theorem G_127 : cdl.getD 127 [] = cd_127 := rfl
theorem J_127_0 : jmp 127 0 = k_127_0 := by unfold jmp; rw [G_127]; rfl
theorem J_127_8 : jmp 127 8 = k_127_8 := by unfold jmp; rw [G_127]; rfl
theorem J_127_57 : jmp 127 57 = k_127_57 := by unfold jmp; rw [G_127]; rfl
/-- FewEnds$Plan.yarnFrom(LFewEnds$Chart;I)I -/
theorem E_127 {x1 : Option Nat} {x2 : Int} (h : knd Sh a = 3) : evc X 127 [vR (some a), vR x1, vI x2] Sh M = ev X 127 k_127_0 [some (vR (some a)), some (vR x1), some (vI x2), none, none, none] [] Sh M := by
  rw [evc_go (by rw [F_127.1]; show 3 ≤ 6; omega) (rcv_v F_127.2.1 F_127.2.2 h), mkls_of F_127.1, J_127_0]
  rfl
theorem F_128 : (mT 128).2.2.1 = 2 ∧ (mwd 128).1 = 0 ∧ mcl 128 = 2 := by decide +kernel
theorem G_128 : cdl.getD 128 [] = cd_128 := rfl
theorem J_128_0 : jmp 128 0 = k_128_0 := by unfold jmp; rw [G_128]; rfl
theorem J_128_35 : jmp 128 35 = k_128_35 := by unfold jmp; rw [G_128]; rfl
theorem J_128_36 : jmp 128 36 = k_128_36 := by unfold jmp; rw [G_128]; rfl
/-- FewEnds$Chart.yarnAt(I)I -/
theorem E_128 {x1 : Int} (h : knd Sh a = 2) : evc X 128 [vR (some a), vI x1] Sh M = ev X 128 k_128_0 [some (vR (some a)), some (vI x1)] [] Sh M := by
  rw [evc_go (by rw [F_128.1]; show 2 ≤ 2; omega) (rcv_v F_128.2.1 F_128.2.2 h), mkls_of F_128.1, J_128_0]
  rfl
theorem F_129 : (mT 129).2.2.1 = 2 ∧ (mwd 129).1 = 0 ∧ mcl 129 = 0 := by decide +kernel
theorem G_129 : cdl.getD 129 [] = cd_129 := rfl
theorem J_129_0 : jmp 129 0 = k_129_0 := by unfold jmp; rw [G_129]; rfl
theorem J_129_17 : jmp 129 17 = k_129_17 := by unfold jmp; rw [G_129]; rfl
/-- FewEnds.hangs(I)I -/
theorem E_129 {x1 : Int} (h : knd Sh a = 0) : evc X 129 [vR (some a), vI x1] Sh M = ev X 129 k_129_0 [some (vR (some a)), some (vI x1)] [] Sh M := by
  rw [evc_go (by rw [F_129.1]; show 2 ≤ 2; omega) (rcv_v F_129.2.1 F_129.2.2 h), mkls_of F_129.1, J_129_0]
  rfl
theorem F_130 : (mT 130).2.2.1 = 5 ∧ (mwd 130).1 = 0 ∧ mcl 130 = 3 := by decide +kernel
theorem G_130 : cdl.getD 130 [] = cd_130 := rfl
theorem J_130_0 : jmp 130 0 = k_130_0 := by unfold jmp; rw [G_130]; rfl
theorem J_130_5 : jmp 130 5 = k_130_5 := by unfold jmp; rw [G_130]; rfl
theorem J_130_54 : jmp 130 54 = k_130_54 := by unfold jmp; rw [G_130]; rfl
theorem J_130_60 : jmp 130 60 = k_130_60 := by unfold jmp; rw [G_130]; rfl
/-- FewEnds$Plan.hangingIn(LFewEnds$Chart;I)I -/
theorem E_130 {x1 : Option Nat} {x2 : Int} (h : knd Sh a = 3) : evc X 130 [vR (some a), vR x1, vI x2] Sh M = ev X 130 k_130_0 [some (vR (some a)), some (vR x1), some (vI x2), none, none] [] Sh M := by
  rw [evc_go (by rw [F_130.1]; show 3 ≤ 5; omega) (rcv_v F_130.2.1 F_130.2.2 h), mkls_of F_130.1, J_130_0]
  rfl
theorem F_131 : (mT 131).2.2.1 = 2 ∧ (mwd 131).1 = 0 ∧ mcl 131 = 0 := by decide +kernel
theorem G_131 : cdl.getD 131 [] = cd_131 := rfl
theorem J_131_0 : jmp 131 0 = k_131_0 := by unfold jmp; rw [G_131]; rfl
theorem J_131_17 : jmp 131 17 = k_131_17 := by unfold jmp; rw [G_131]; rfl
/-- FewEnds.tangle(I)I -/
theorem E_131 {x1 : Int} (h : knd Sh a = 0) : evc X 131 [vR (some a), vI x1] Sh M = ev X 131 k_131_0 [some (vR (some a)), some (vI x1)] [] Sh M := by
  rw [evc_go (by rw [F_131.1]; show 2 ≤ 2; omega) (rcv_v F_131.2.1 F_131.2.2 h), mkls_of F_131.1, J_131_0]
  rfl
theorem F_132 : (mT 132).2.2.1 = 4 ∧ (mwd 132).1 = 0 ∧ mcl 132 = 3 := by decide +kernel
theorem G_132 : cdl.getD 132 [] = cd_132 := rfl
theorem J_132_0 : jmp 132 0 = k_132_0 := by unfold jmp; rw [G_132]; rfl
/-- FewEnds$Plan.tangledIn(LFewEnds$Chart;I)I -/
theorem E_132 {x1 : Option Nat} {x2 : Int} (h : knd Sh a = 3) : evc X 132 [vR (some a), vR x1, vI x2] Sh M = ev X 132 k_132_0 [some (vR (some a)), some (vR x1), some (vI x2), none] [] Sh M := by
  rw [evc_go (by rw [F_132.1]; show 3 ≤ 4; omega) (rcv_v F_132.2.1 F_132.2.2 h), mkls_of F_132.1, J_132_0]
  rfl
theorem F_134 : (mT 134).2.2.1 = 1 ∧ (mwd 134).1 = 0 ∧ mcl 134 = 0 := by decide +kernel
theorem G_134 : cdl.getD 134 [] = cd_134 := rfl
theorem J_134_0 : jmp 134 0 = k_134_0 := by unfold jmp; rw [G_134]; rfl
/-- FewEnds.planCost()I -/
theorem E_134 (h : knd Sh a = 0) : evc X 134 [vR (some a)] Sh M = ev X 134 k_134_0 [some (vR (some a))] [] Sh M := by
  rw [evc_go (by rw [F_134.1]; show 1 ≤ 1; omega) (rcv_v F_134.2.1 F_134.2.2 h), mkls_of F_134.1, J_134_0]
  rfl
theorem F_135 : (mT 135).2.2.1 = 4 ∧ (mwd 135).1 = 0 ∧ mcl 135 = 3 := by decide +kernel
theorem G_135 : cdl.getD 135 [] = cd_135 := rfl
theorem J_135_0 : jmp 135 0 = k_135_0 := by unfold jmp; rw [G_135]; rfl
theorem J_135_18 : jmp 135 18 = k_135_18 := by unfold jmp; rw [G_135]; rfl
theorem J_135_46 : jmp 135 46 = k_135_46 := by unfold jmp; rw [G_135]; rfl
theorem J_135_48 : jmp 135 48 = k_135_48 := by unfold jmp; rw [G_135]; rfl
theorem J_135_73 : jmp 135 73 = k_135_73 := by unfold jmp; rw [G_135]; rfl
/-- FewEnds$Plan.costOn(LFewEnds$Chart;)I -/
theorem E_135 {x1 : Option Nat} (h : knd Sh a = 3) : evc X 135 [vR (some a), vR x1] Sh M = ev X 135 k_135_0 [some (vR (some a)), some (vR x1), none, none] [] Sh M := by
  rw [evc_go (by rw [F_135.1]; show 2 ≤ 4; omega) (rcv_v F_135.2.1 F_135.2.2 h), mkls_of F_135.1, J_135_0]
  rfl
theorem F_136 : (mT 136).2.2.1 = 4 ∧ (mwd 136).1 = 0 ∧ mcl 136 = 0 := by decide +kernel
theorem G_136 : cdl.getD 136 [] = cd_136 := rfl
theorem J_136_0 : jmp 136 0 = k_136_0 := by unfold jmp; rw [G_136]; rfl
theorem J_136_4 : jmp 136 4 = k_136_4 := by unfold jmp; rw [G_136]; rfl
theorem J_136_47 : jmp 136 47 = k_136_47 := by unfold jmp; rw [G_136]; rfl
theorem J_136_53 : jmp 136 53 = k_136_53 := by unfold jmp; rw [G_136]; rfl
/-- FewEnds.longest()I -/
theorem E_136 (h : knd Sh a = 0) : evc X 136 [vR (some a)] Sh M = ev X 136 k_136_0 [some (vR (some a)), none, none, none] [] Sh M := by
  rw [evc_go (by rw [F_136.1]; show 1 ≤ 4; omega) (rcv_v F_136.2.1 F_136.2.2 h), mkls_of F_136.1, J_136_0]
  rfl
theorem F_137 : (mT 137).2.2.1 = 4 ∧ (mwd 137).1 = 0 ∧ mcl 137 = 2 := by decide +kernel
theorem G_137 : cdl.getD 137 [] = cd_137 := rfl
theorem J_137_0 : jmp 137 0 = k_137_0 := by unfold jmp; rw [G_137]; rfl
theorem J_137_17 : jmp 137 17 = k_137_17 := by unfold jmp; rw [G_137]; rfl
theorem J_137_21 : jmp 137 21 = k_137_21 := by unfold jmp; rw [G_137]; rfl
theorem J_137_22 : jmp 137 22 = k_137_22 := by unfold jmp; rw [G_137]; rfl
/-- FewEnds$Chart.isBehindWork(II)Z -/
theorem E_137 {x1 : Int} {x2 : Int} (h : knd Sh a = 2) : evc X 137 [vR (some a), vI x1, vI x2] Sh M = ev X 137 k_137_0 [some (vR (some a)), some (vI x1), some (vI x2), none] [] Sh M := by
  rw [evc_go (by rw [F_137.1]; show 3 ≤ 4; omega) (rcv_v F_137.2.1 F_137.2.2 h), mkls_of F_137.1, J_137_0]
  rfl
theorem F_138 : (mT 138).2.2.1 = 2 ∧ (mwd 138).1 = 0 ∧ mcl 138 = 0 := by decide +kernel
theorem G_138 : cdl.getD 138 [] = cd_138 := rfl
theorem J_138_0 : jmp 138 0 = k_138_0 := by unfold jmp; rw [G_138]; rfl
theorem J_138_17 : jmp 138 17 = k_138_17 := by unfold jmp; rw [G_138]; rfl
/-- FewEnds.yarn(I)I -/
theorem E_138 {x1 : Int} (h : knd Sh a = 0) : evc X 138 [vR (some a), vI x1] Sh M = ev X 138 k_138_0 [some (vR (some a)), some (vI x1)] [] Sh M := by
  rw [evc_go (by rw [F_138.1]; show 2 ≤ 2; omega) (rcv_v F_138.2.1 F_138.2.2 h), mkls_of F_138.1, J_138_0]
  rfl
theorem F_139 : (mT 139).2.2.1 = 5 ∧ (mwd 139).1 = 0 ∧ mcl 139 = 3 := by decide +kernel
theorem G_139 : cdl.getD 139 [] = cd_139 := rfl
theorem J_139_0 : jmp 139 0 = k_139_0 := by unfold jmp; rw [G_139]; rfl
theorem J_139_5 : jmp 139 5 = k_139_5 := by unfold jmp; rw [G_139]; rfl
theorem J_139_48 : jmp 139 48 = k_139_48 := by unfold jmp; rw [G_139]; rfl
theorem J_139_54 : jmp 139 54 = k_139_54 := by unfold jmp; rw [G_139]; rfl
/-- FewEnds$Plan.yarnFor(LFewEnds$Chart;I)I -/
theorem E_139 {x1 : Option Nat} {x2 : Int} (h : knd Sh a = 3) : evc X 139 [vR (some a), vR x1, vI x2] Sh M = ev X 139 k_139_0 [some (vR (some a)), some (vR x1), some (vI x2), none, none] [] Sh M := by
  rw [evc_go (by rw [F_139.1]; show 3 ≤ 5; omega) (rcv_v F_139.2.1 F_139.2.2 h), mkls_of F_139.1, J_139_0]
  rfl
theorem F_140 : (mT 140).2.2.1 = 2 ∧ (mwd 140).1 = 0 ∧ mcl 140 = 0 := by decide +kernel
theorem G_140 : cdl.getD 140 [] = cd_140 := rfl
theorem J_140_0 : jmp 140 0 = k_140_0 := by unfold jmp; rw [G_140]; rfl
theorem J_140_22 : jmp 140 22 = k_140_22 := by unfold jmp; rw [G_140]; rfl
theorem J_140_42 : jmp 140 42 = k_140_42 := by unfold jmp; rw [G_140]; rfl
theorem J_140_54 : jmp 140 54 = k_140_54 := by unfold jmp; rw [G_140]; rfl
/-- FewEnds.least(I)I -/
theorem E_140 {x1 : Int} (h : knd Sh a = 0) : evc X 140 [vR (some a), vI x1] Sh M = ev X 140 k_140_0 [some (vR (some a)), some (vI x1)] [] Sh M := by
  rw [evc_go (by rw [F_140.1]; show 2 ≤ 2; omega) (rcv_v F_140.2.1 F_140.2.2 h), mkls_of F_140.1, J_140_0]
  rfl
theorem F_141 : (mT 141).2.2.1 = 4 ∧ (mwd 141).1 = 0 ∧ mcl 141 = 7 := by decide +kernel
theorem G_141 : cdl.getD 141 [] = cd_141 := rfl
theorem J_141_0 : jmp 141 0 = k_141_0 := by unfold jmp; rw [G_141]; rfl
theorem J_141_4 : jmp 141 4 = k_141_4 := by unfold jmp; rw [G_141]; rfl
theorem J_141_39 : jmp 141 39 = k_141_39 := by unfold jmp; rw [G_141]; rfl
/-- FewEnds$Pairing.leastOfAll(LFewEnds$Chart;)I -/
theorem E_141 {x1 : Option Nat} (h : knd Sh a = 7) : evc X 141 [vR (some a), vR x1] Sh M = ev X 141 k_141_0 [some (vR (some a)), some (vR x1), none, none] [] Sh M := by
  rw [evc_go (by rw [F_141.1]; show 2 ≤ 4; omega) (rcv_v F_141.2.1 F_141.2.2 h), mkls_of F_141.1, J_141_0]
  rfl
theorem F_142 : (mT 142).2.2.1 = 4 ∧ (mwd 142).1 = 0 ∧ mcl 142 = 7 := by decide +kernel
theorem G_142 : cdl.getD 142 [] = cd_142 := rfl
theorem J_142_0 : jmp 142 0 = k_142_0 := by unfold jmp; rw [G_142]; rfl
theorem J_142_12 : jmp 142 12 = k_142_12 := by unfold jmp; rw [G_142]; rfl
theorem J_142_40 : jmp 142 40 = k_142_40 := by unfold jmp; rw [G_142]; rfl
theorem J_142_46 : jmp 142 46 = k_142_46 := by unfold jmp; rw [G_142]; rfl
/-- FewEnds$Pairing.gather(LFewEnds$Chart;I)V -/
theorem E_142 {x1 : Option Nat} {x2 : Int} (h : knd Sh a = 7) : evc X 142 [vR (some a), vR x1, vI x2] Sh M = ev X 142 k_142_0 [some (vR (some a)), some (vR x1), some (vI x2), none] [] Sh M := by
  rw [evc_go (by rw [F_142.1]; show 3 ≤ 4; omega) (rcv_v F_142.2.1 F_142.2.2 h), mkls_of F_142.1, J_142_0]
  rfl
theorem F_143 : (mT 143).2.2.1 = 2 ∧ (mwd 143).1 = 0 ∧ mcl 143 = 7 := by decide +kernel
theorem G_143 : cdl.getD 143 [] = cd_143 := rfl
theorem J_143_0 : jmp 143 0 = k_143_0 := by unfold jmp; rw [G_143]; rfl
theorem J_143_29 : jmp 143 29 = k_143_29 := by unfold jmp; rw [G_143]; rfl
/-- FewEnds$Pairing.addSource(I)V -/
theorem E_143 {x1 : Int} (h : knd Sh a = 7) : evc X 143 [vR (some a), vI x1] Sh M = ev X 143 k_143_0 [some (vR (some a)), some (vI x1)] [] Sh M := by
  rw [evc_go (by rw [F_143.1]; show 2 ≤ 2; omega) (rcv_v F_143.2.1 F_143.2.2 h), mkls_of F_143.1, J_143_0]
  rfl
theorem F_144 : (mT 144).2.2.1 = 2 ∧ (mwd 144).1 = 0 ∧ mcl 144 = 7 := by decide +kernel
theorem G_144 : cdl.getD 144 [] = cd_144 := rfl
theorem J_144_0 : jmp 144 0 = k_144_0 := by unfold jmp; rw [G_144]; rfl
theorem J_144_29 : jmp 144 29 = k_144_29 := by unfold jmp; rw [G_144]; rfl
/-- FewEnds$Pairing.addGoal(I)V -/
theorem E_144 {x1 : Int} (h : knd Sh a = 7) : evc X 144 [vR (some a), vI x1] Sh M = ev X 144 k_144_0 [some (vR (some a)), some (vI x1)] [] Sh M := by
  rw [evc_go (by rw [F_144.1]; show 2 ≤ 2; omega) (rcv_v F_144.2.1 F_144.2.2 h), mkls_of F_144.1, J_144_0]
  rfl
theorem F_145 : (mT 145).2.2.1 = 10 ∧ (mwd 145).1 = 0 ∧ mcl 145 = 7 := by decide +kernel
theorem G_145 : cdl.getD 145 [] = cd_145 := rfl
theorem J_145_0 : jmp 145 0 = k_145_0 := by unfold jmp; rw [G_145]; rfl
theorem J_145_8 : jmp 145 8 = k_145_8 := by unfold jmp; rw [G_145]; rfl
theorem J_145_16 : jmp 145 16 = k_145_16 := by unfold jmp; rw [G_145]; rfl
theorem J_145_20 : jmp 145 20 = k_145_20 := by unfold jmp; rw [G_145]; rfl
theorem J_145_56 : jmp 145 56 = k_145_56 := by unfold jmp; rw [G_145]; rfl
theorem J_145_88 : jmp 145 88 = k_145_88 := by unfold jmp; rw [G_145]; rfl
theorem J_145_103 : jmp 145 103 = k_145_103 := by unfold jmp; rw [G_145]; rfl
theorem J_145_126 : jmp 145 126 = k_145_126 := by unfold jmp; rw [G_145]; rfl
theorem J_145_128 : jmp 145 128 = k_145_128 := by unfold jmp; rw [G_145]; rfl
theorem J_145_135 : jmp 145 135 = k_145_135 := by unfold jmp; rw [G_145]; rfl
theorem J_145_141 : jmp 145 141 = k_145_141 := by unfold jmp; rw [G_145]; rfl
/-- FewEnds$Pairing.price(LFewEnds$Chart;Z)V -/
theorem E_145 {x1 : Option Nat} {x2 : Int} (h : knd Sh a = 7) : evc X 145 [vR (some a), vR x1, vI x2] Sh M = ev X 145 k_145_0 [some (vR (some a)), some (vR x1), some (vI x2), none, none, none, none, none, none, none] [] Sh M := by
  rw [evc_go (by rw [F_145.1]; show 3 ≤ 10; omega) (rcv_v F_145.2.1 F_145.2.2 h), mkls_of F_145.1, J_145_0]
  rfl
theorem F_146 : (mT 146).2.2.1 = 4 ∧ (mwd 146).1 = 0 ∧ mcl 146 = 7 := by decide +kernel
theorem G_146 : cdl.getD 146 [] = cd_146 := rfl
theorem J_146_0 : jmp 146 0 = k_146_0 := by unfold jmp; rw [G_146]; rfl
theorem J_146_26 : jmp 146 26 = k_146_26 := by unfold jmp; rw [G_146]; rfl
theorem J_146_45 : jmp 146 45 = k_146_45 := by unfold jmp; rw [G_146]; rfl
theorem J_146_54 : jmp 146 54 = k_146_54 := by unfold jmp; rw [G_146]; rfl
theorem J_146_94 : jmp 146 94 = k_146_94 := by unfold jmp; rw [G_146]; rfl
theorem J_146_100 : jmp 146 100 = k_146_100 := by unfold jmp; rw [G_146]; rfl
/-- FewEnds$Pairing.settle()I -/
theorem E_146 (h : knd Sh a = 7) : evc X 146 [vR (some a)] Sh M = ev X 146 k_146_0 [some (vR (some a)), none, none, none] [] Sh M := by
  rw [evc_go (by rw [F_146.1]; show 1 ≤ 4; omega) (rcv_v F_146.2.1 F_146.2.2 h), mkls_of F_146.1, J_146_0]
  rfl
theorem F_147 : (mT 147).2.2.1 = 5 ∧ (mwd 147).1 = 0 ∧ mcl 147 = 7 := by decide +kernel
theorem G_147 : cdl.getD 147 [] = cd_147 := rfl
theorem J_147_0 : jmp 147 0 = k_147_0 := by unfold jmp; rw [G_147]; rfl
theorem J_147_18 : jmp 147 18 = k_147_18 := by unfold jmp; rw [G_147]; rfl
theorem J_147_36 : jmp 147 36 = k_147_36 := by unfold jmp; rw [G_147]; rfl
theorem J_147_48 : jmp 147 48 = k_147_48 := by unfold jmp; rw [G_147]; rfl
theorem J_147_98 : jmp 147 98 = k_147_98 := by unfold jmp; rw [G_147]; rfl
/-- FewEnds$Pairing.bringIn(I)V -/
theorem E_147 {x1 : Int} (h : knd Sh a = 7) : evc X 147 [vR (some a), vI x1] Sh M = ev X 147 k_147_0 [some (vR (some a)), some (vI x1), none, none, none] [] Sh M := by
  rw [evc_go (by rw [F_147.1]; show 2 ≤ 5; omega) (rcv_v F_147.2.1 F_147.2.2 h), mkls_of F_147.1, J_147_0]
  rfl
theorem F_148 : (mT 148).2.2.1 = 5 ∧ (mwd 148).1 = 0 ∧ mcl 148 = 7 := by decide +kernel
theorem G_148 : cdl.getD 148 [] = cd_148 := rfl
theorem J_148_0 : jmp 148 0 = k_148_0 := by unfold jmp; rw [G_148]; rfl
theorem J_148_9 : jmp 148 9 = k_148_9 := by unfold jmp; rw [G_148]; rfl
theorem J_148_79 : jmp 148 79 = k_148_79 := by unfold jmp; rw [G_148]; rfl
theorem J_148_85 : jmp 148 85 = k_148_85 := by unfold jmp; rw [G_148]; rfl
/-- FewEnds$Pairing.measureFrom(I)V -/
theorem E_148 {x1 : Int} (h : knd Sh a = 7) : evc X 148 [vR (some a), vI x1] Sh M = ev X 148 k_148_0 [some (vR (some a)), some (vI x1), none, none, none] [] Sh M := by
  rw [evc_go (by rw [F_148.1]; show 2 ≤ 5; omega) (rcv_v F_148.2.1 F_148.2.2 h), mkls_of F_148.1, J_148_0]
  rfl
theorem F_149 : (mT 149).2.2.1 = 3 ∧ (mwd 149).1 = 0 ∧ mcl 149 = 7 := by decide +kernel
theorem G_149 : cdl.getD 149 [] = cd_149 := rfl
theorem J_149_0 : jmp 149 0 = k_149_0 := by unfold jmp; rw [G_149]; rfl
theorem J_149_4 : jmp 149 4 = k_149_4 := by unfold jmp; rw [G_149]; rfl
theorem J_149_38 : jmp 149 38 = k_149_38 := by unfold jmp; rw [G_149]; rfl
theorem J_149_44 : jmp 149 44 = k_149_44 := by unfold jmp; rw [G_149]; rfl
/-- FewEnds$Pairing.nearest()I -/
theorem E_149 (h : knd Sh a = 7) : evc X 149 [vR (some a)] Sh M = ev X 149 k_149_0 [some (vR (some a)), none, none] [] Sh M := by
  rw [evc_go (by rw [F_149.1]; show 1 ≤ 3; omega) (rcv_v F_149.2.1 F_149.2.2 h), mkls_of F_149.1, J_149_0]
  rfl
theorem F_150 : (mT 150).2.2.1 = 6 ∧ (mwd 150).1 = 0 ∧ mcl 150 = 7 := by decide +kernel
theorem G_150 : cdl.getD 150 [] = cd_150 := rfl
theorem J_150_0 : jmp 150 0 = k_150_0 := by unfold jmp; rw [G_150]; rfl
theorem J_150_10 : jmp 150 10 = k_150_10 := by unfold jmp; rw [G_150]; rfl
theorem J_150_66 : jmp 150 66 = k_150_66 := by unfold jmp; rw [G_150]; rfl
theorem J_150_77 : jmp 150 77 = k_150_77 := by unfold jmp; rw [G_150]; rfl
theorem J_150_83 : jmp 150 83 = k_150_83 := by unfold jmp; rw [G_150]; rfl
/-- FewEnds$Pairing.shift(II)V -/
theorem E_150 {x1 : Int} {x2 : Int} (h : knd Sh a = 7) : evc X 150 [vR (some a), vI x1, vI x2] Sh M = ev X 150 k_150_0 [some (vR (some a)), some (vI x1), some (vI x2), none, none, none] [] Sh M := by
  rw [evc_go (by rw [F_150.1]; show 3 ≤ 6; omega) (rcv_v F_150.2.1 F_150.2.2 h), mkls_of F_150.1, J_150_0]
  rfl
theorem F_151 : (mT 151).2.2.1 = 6 ∧ (mwd 151).1 = 0 ∧ mcl 151 = 7 := by decide +kernel
theorem G_151 : cdl.getD 151 [] = cd_151 := rfl
theorem J_151_0 : jmp 151 0 = k_151_0 := by unfold jmp; rw [G_151]; rfl
theorem J_151_5 : jmp 151 5 = k_151_5 := by unfold jmp; rw [G_151]; rfl
theorem J_151_42 : jmp 151 42 = k_151_42 := by unfold jmp; rw [G_151]; rfl
theorem J_151_51 : jmp 151 51 = k_151_51 := by unfold jmp; rw [G_151]; rfl
/-- FewEnds$Pairing.changeAlong(II)V -/
theorem E_151 {x1 : Int} {x2 : Int} (h : knd Sh a = 7) : evc X 151 [vR (some a), vI x1, vI x2] Sh M = ev X 151 k_151_0 [some (vR (some a)), some (vI x1), some (vI x2), none, none, none] [] Sh M := by
  rw [evc_go (by rw [F_151.1]; show 3 ≤ 6; omega) (rcv_v F_151.2.1 F_151.2.2 h), mkls_of F_151.1, J_151_0]
  rfl
theorem F_152 : (mT 152).2.2.1 = 3 ∧ (mwd 152).1 = 0 ∧ mcl 152 = 7 := by decide +kernel
theorem G_152 : cdl.getD 152 [] = cd_152 := rfl
theorem J_152_0 : jmp 152 0 = k_152_0 := by unfold jmp; rw [G_152]; rfl
/-- FewEnds$Pairing.leastOf(LFewEnds$Chart;I)I -/
theorem E_152 {x1 : Option Nat} {x2 : Int} (h : knd Sh a = 7) : evc X 152 [vR (some a), vR x1, vI x2] Sh M = ev X 152 k_152_0 [some (vR (some a)), some (vR x1), some (vI x2)] [] Sh M := by
  rw [evc_go (by rw [F_152.1]; show 3 ≤ 3; omega) (rcv_v F_152.2.1 F_152.2.2 h), mkls_of F_152.1, J_152_0]
  rfl
theorem F_153 : (mT 153).2.2.1 = 4 ∧ (mwd 153).1 = 0 ∧ mcl 153 = 0 := by decide +kernel
theorem G_153 : cdl.getD 153 [] = cd_153 := rfl
theorem J_153_0 : jmp 153 0 = k_153_0 := by unfold jmp; rw [G_153]; rfl
theorem J_153_22 : jmp 153 22 = k_153_22 := by unfold jmp; rw [G_153]; rfl
theorem J_153_44 : jmp 153 44 = k_153_44 := by unfold jmp; rw [G_153]; rfl
theorem J_153_48 : jmp 153 48 = k_153_48 := by unfold jmp; rw [G_153]; rfl
theorem J_153_82 : jmp 153 82 = k_153_82 := by unfold jmp; rw [G_153]; rfl
/-- FewEnds.fewest(I)I -/
theorem E_153 {x1 : Int} (h : knd Sh a = 0) : evc X 153 [vR (some a), vI x1] Sh M = ev X 153 k_153_0 [some (vR (some a)), some (vI x1), none, none] [] Sh M := by
  rw [evc_go (by rw [F_153.1]; show 2 ≤ 4; omega) (rcv_v F_153.2.1 F_153.2.2 h), mkls_of F_153.1, J_153_0]
  rfl
theorem F_154 : (mT 154).2.2.1 = 3 ∧ (mwd 154).1 = 0 ∧ mcl 154 = 7 := by decide +kernel
theorem G_154 : cdl.getD 154 [] = cd_154 := rfl
theorem J_154_0 : jmp 154 0 = k_154_0 := by unfold jmp; rw [G_154]; rfl
/-- FewEnds$Pairing.fewestOf(LFewEnds$Chart;I)I -/
theorem E_154 {x1 : Option Nat} {x2 : Int} (h : knd Sh a = 7) : evc X 154 [vR (some a), vR x1, vI x2] Sh M = ev X 154 k_154_0 [some (vR (some a)), some (vR x1), some (vI x2)] [] Sh M := by
  rw [evc_go (by rw [F_154.1]; show 3 ≤ 3; omega) (rcv_v F_154.2.1 F_154.2.2 h), mkls_of F_154.1, J_154_0]
  rfl
theorem F_155 : (mT 155).2.2.1 = 1 ∧ (mwd 155).1 = 0 ∧ mcl 155 = 0 := by decide +kernel
theorem G_155 : cdl.getD 155 [] = cd_155 := rfl
theorem J_155_0 : jmp 155 0 = k_155_0 := by unfold jmp; rw [G_155]; rfl
/-- FewEnds.gap()I -/
theorem E_155 (h : knd Sh a = 0) : evc X 155 [vR (some a)] Sh M = ev X 155 k_155_0 [some (vR (some a))] [] Sh M := by
  rw [evc_go (by rw [F_155.1]; show 1 ≤ 1; omega) (rcv_v F_155.2.1 F_155.2.2 h), mkls_of F_155.1, J_155_0]
  rfl
theorem F_156 : (mT 156).2.2.1 = 4 ∧ (mwd 156).1 = 0 ∧ mcl 156 = 0 := by decide +kernel
theorem G_156 : cdl.getD 156 [] = cd_156 := rfl
theorem J_156_0 : jmp 156 0 = k_156_0 := by unfold jmp; rw [G_156]; rfl
theorem J_156_23 : jmp 156 23 = k_156_23 := by unfold jmp; rw [G_156]; rfl
theorem J_156_61 : jmp 156 61 = k_156_61 := by unfold jmp; rw [G_156]; rfl
/-- FewEnds.worth()Z -/
theorem E_156 (h : knd Sh a = 0) : evc X 156 [vR (some a)] Sh M = ev X 156 k_156_0 [some (vR (some a)), none, none, none] [] Sh M := by
  rw [evc_go (by rw [F_156.1]; show 1 ≤ 4; omega) (rcv_v F_156.2.1 F_156.2.2 h), mkls_of F_156.1, J_156_0]
  rfl
theorem F_157 : (mT 157).2.2.1 = 6 ∧ (mwd 157).1 = 1 ∧ mcl 157 = 0 := by decide +kernel
theorem G_157 : cdl.getD 157 [] = cd_157 := rfl
theorem J_157_0 : jmp 157 0 = k_157_0 := by unfold jmp; rw [G_157]; rfl
theorem J_157_7 : jmp 157 7 = k_157_7 := by unfold jmp; rw [G_157]; rfl
theorem J_157_35 : jmp 157 35 = k_157_35 := by unfold jmp; rw [G_157]; rfl
/-- FewEnds.commonDivisor(II)I -/
theorem E_157 {x1 : Int} {x2 : Int} : evc X 157 [vI x1, vI x2] Sh M = ev X 157 k_157_0 [some (vI x1), some (vI x2), none, none, none, none] [] Sh M := by
  rw [evc_go (by rw [F_157.1]; show 2 ≤ 6; omega) (rcv_s F_157.2.1), mkls_of F_157.1, J_157_0]
  rfl
theorem F_158 : (mT 158).2.2.1 = 2 ∧ (mwd 158).1 = 0 ∧ mcl 158 = 0 := by decide +kernel
theorem G_158 : cdl.getD 158 [] = cd_158 := rfl
theorem J_158_0 : jmp 158 0 = k_158_0 := by unfold jmp; rw [G_158]; rfl
theorem J_158_17 : jmp 158 17 = k_158_17 := by unfold jmp; rw [G_158]; rfl
/-- FewEnds.rowAlone(I)I -/
theorem E_158 {x1 : Int} (h : knd Sh a = 0) : evc X 158 [vR (some a), vI x1] Sh M = ev X 158 k_158_0 [some (vR (some a)), some (vI x1)] [] Sh M := by
  rw [evc_go (by rw [F_158.1]; show 2 ≤ 2; omega) (rcv_v F_158.2.1 F_158.2.2 h), mkls_of F_158.1, J_158_0]
  rfl
theorem F_159 : (mT 159).2.2.1 = 6 ∧ (mwd 159).1 = 0 ∧ mcl 159 = 7 := by decide +kernel
theorem G_159 : cdl.getD 159 [] = cd_159 := rfl
theorem J_159_0 : jmp 159 0 = k_159_0 := by unfold jmp; rw [G_159]; rfl
theorem J_159_13 : jmp 159 13 = k_159_13 := by unfold jmp; rw [G_159]; rfl
theorem J_159_48 : jmp 159 48 = k_159_48 := by unfold jmp; rw [G_159]; rfl
theorem J_159_90 : jmp 159 90 = k_159_90 := by unfold jmp; rw [G_159]; rfl
theorem J_159_96 : jmp 159 96 = k_159_96 := by unfold jmp; rw [G_159]; rfl
theorem J_159_102 : jmp 159 102 = k_159_102 := by unfold jmp; rw [G_159]; rfl
/-- FewEnds$Pairing.leastOfRow(LFewEnds$Chart;LFewEnds$Plan;I)I -/
theorem E_159 {x1 : Option Nat} {x2 : Option Nat} {x3 : Int} (h : knd Sh a = 7) : evc X 159 [vR (some a), vR x1, vR x2, vI x3] Sh M = ev X 159 k_159_0 [some (vR (some a)), some (vR x1), some (vR x2), some (vI x3), none, none] [] Sh M := by
  rw [evc_go (by rw [F_159.1]; show 4 ≤ 6; omega) (rcv_v F_159.2.1 F_159.2.2 h), mkls_of F_159.1, J_159_0]
  rfl
theorem F_160 : (mT 160).2.2.1 = 1 ∧ (mwd 160).1 = 0 ∧ mcl 160 = 0 := by decide +kernel
theorem G_160 : cdl.getD 160 [] = cd_160 := rfl
theorem J_160_0 : jmp 160 0 = k_160_0 := by unfold jmp; rw [G_160]; rfl
/-- FewEnds.other()I -/
theorem E_160 (h : knd Sh a = 0) : evc X 160 [vR (some a)] Sh M = ev X 160 k_160_0 [some (vR (some a))] [] Sh M := by
  rw [evc_go (by rw [F_160.1]; show 1 ≤ 1; omega) (rcv_v F_160.2.1 F_160.2.2 h), mkls_of F_160.1, J_160_0]
  rfl
theorem F_161 : (mT 161).2.2.1 = 3 ∧ (mwd 161).1 = 0 ∧ mcl 161 = 0 := by decide +kernel
theorem G_161 : cdl.getD 161 [] = cd_161 := rfl
theorem J_161_0 : jmp 161 0 = k_161_0 := by unfold jmp; rw [G_161]; rfl
theorem J_161_35 : jmp 161 35 = k_161_35 := by unfold jmp; rw [G_161]; rfl
theorem J_161_41 : jmp 161 41 = k_161_41 := by unfold jmp; rw [G_161]; rfl
/-- FewEnds.saves(II)I -/
theorem E_161 {x1 : Int} {x2 : Int} (h : knd Sh a = 0) : evc X 161 [vR (some a), vI x1, vI x2] Sh M = ev X 161 k_161_0 [some (vR (some a)), some (vI x1), some (vI x2)] [] Sh M := by
  rw [evc_go (by rw [F_161.1]; show 3 ≤ 3; omega) (rcv_v F_161.2.1 F_161.2.2 h), mkls_of F_161.1, J_161_0]
  rfl
theorem F_162 : (mT 162).2.2.1 = 3 ∧ (mwd 162).1 = 0 ∧ mcl 162 = 2 := by decide +kernel
theorem G_162 : cdl.getD 162 [] = cd_162 := rfl
theorem J_162_0 : jmp 162 0 = k_162_0 := by unfold jmp; rw [G_162]; rfl
theorem J_162_23 : jmp 162 23 = k_162_23 := by unfold jmp; rw [G_162]; rfl
/-- FewEnds$Chart.recolour(II)V -/
theorem E_162 {x1 : Int} {x2 : Int} (h : knd Sh a = 2) : evc X 162 [vR (some a), vI x1, vI x2] Sh M = ev X 162 k_162_0 [some (vR (some a)), some (vI x1), some (vI x2)] [] Sh M := by
  rw [evc_go (by rw [F_162.1]; show 3 ≤ 3; omega) (rcv_v F_162.2.1 F_162.2.2 h), mkls_of F_162.1, J_162_0]
  rfl
theorem F_163 : (mT 163).2.2.1 = 2 ∧ (mwd 163).1 = 0 ∧ mcl 163 = 0 := by decide +kernel
theorem G_163 : cdl.getD 163 [] = cd_163 := rfl
theorem J_163_0 : jmp 163 0 = k_163_0 := by unfold jmp; rw [G_163]; rfl
theorem J_163_9 : jmp 163 9 = k_163_9 := by unfold jmp; rw [G_163]; rfl
theorem J_163_15 : jmp 163 15 = k_163_15 := by unfold jmp; rw [G_163]; rfl
theorem J_163_32 : jmp 163 32 = k_163_32 := by unfold jmp; rw [G_163]; rfl
theorem J_163_62 : jmp 163 62 = k_163_62 := by unfold jmp; rw [G_163]; rfl
theorem J_163_80 : jmp 163 80 = k_163_80 := by unfold jmp; rw [G_163]; rfl
theorem J_163_89 : jmp 163 89 = k_163_89 := by unfold jmp; rw [G_163]; rfl
/-- FewEnds.best(I)I -/
theorem E_163 {x1 : Int} (h : knd Sh a = 0) : evc X 163 [vR (some a), vI x1] Sh M = ev X 163 k_163_0 [some (vR (some a)), some (vI x1)] [] Sh M := by
  rw [evc_go (by rw [F_163.1]; show 2 ≤ 2; omega) (rcv_v F_163.2.1 F_163.2.2 h), mkls_of F_163.1, J_163_0]
  rfl
theorem F_164 : (mT 164).2.2.1 = 1 ∧ (mwd 164).1 = 0 ∧ mcl 164 = 2 := by decide +kernel
theorem G_164 : cdl.getD 164 [] = cd_164 := rfl
theorem J_164_0 : jmp 164 0 = k_164_0 := by unfold jmp; rw [G_164]; rfl
theorem J_164_21 : jmp 164 21 = k_164_21 := by unfold jmp; rw [G_164]; rfl
theorem J_164_22 : jmp 164 22 = k_164_22 := by unfold jmp; rw [G_164]; rfl
/-- FewEnds$Chart.canBeAltered()Z -/
theorem E_164 (h : knd Sh a = 2) : evc X 164 [vR (some a)] Sh M = ev X 164 k_164_0 [some (vR (some a))] [] Sh M := by
  rw [evc_go (by rw [F_164.1]; show 1 ≤ 1; omega) (rcv_v F_164.2.1 F_164.2.2 h), mkls_of F_164.1, J_164_0]
  rfl
theorem F_165 : (mT 165).2.2.1 = 4 ∧ (mwd 165).1 = 0 ∧ mcl 165 = 8 := by decide +kernel
theorem G_165 : cdl.getD 165 [] = cd_165 := rfl
theorem J_165_0 : jmp 165 0 = k_165_0 := by unfold jmp; rw [G_165]; rfl
theorem J_165_15 : jmp 165 15 = k_165_15 := by unfold jmp; rw [G_165]; rfl
theorem J_165_20 : jmp 165 20 = k_165_20 := by unfold jmp; rw [G_165]; rfl
theorem J_165_45 : jmp 165 45 = k_165_45 := by unfold jmp; rw [G_165]; rfl
theorem J_165_72 : jmp 165 72 = k_165_72 := by unfold jmp; rw [G_165]; rfl
theorem J_165_90 : jmp 165 90 = k_165_90 := by unfold jmp; rw [G_165]; rfl
/-- FewEnds$Alterations.find(LFewEnds$Chart;I)V -/
theorem E_165 {x1 : Option Nat} {x2 : Int} (h : knd Sh a = 8) : evc X 165 [vR (some a), vR x1, vI x2] Sh M = ev X 165 k_165_0 [some (vR (some a)), some (vR x1), some (vI x2), none] [] Sh M := by
  rw [evc_go (by rw [F_165.1]; show 3 ≤ 4; omega) (rcv_v F_165.2.1 F_165.2.2 h), mkls_of F_165.1, J_165_0]
  rfl
theorem F_166 : (mT 166).2.2.1 = 7 ∧ (mwd 166).1 = 0 ∧ mcl 166 = 8 := by decide +kernel
theorem G_166 : cdl.getD 166 [] = cd_166 := rfl
theorem J_166_0 : jmp 166 0 = k_166_0 := by unfold jmp; rw [G_166]; rfl
theorem J_166_33 : jmp 166 33 = k_166_33 := by unfold jmp; rw [G_166]; rfl
theorem J_166_58 : jmp 166 58 = k_166_58 := by unfold jmp; rw [G_166]; rfl
theorem J_166_138 : jmp 166 138 = k_166_138 := by unfold jmp; rw [G_166]; rfl
theorem J_166_144 : jmp 166 144 = k_166_144 := by unfold jmp; rw [G_166]; rfl
theorem J_166_160 : jmp 166 160 = k_166_160 := by unfold jmp; rw [G_166]; rfl
/-- FewEnds$Alterations.findOne(I)V -/
theorem E_166 {x1 : Int} (h : knd Sh a = 8) : evc X 166 [vR (some a), vI x1] Sh M = ev X 166 k_166_0 [some (vR (some a)), some (vI x1), none, none, none, none, none] [] Sh M := by
  rw [evc_go (by rw [F_166.1]; show 2 ≤ 7; omega) (rcv_v F_166.2.1 F_166.2.2 h), mkls_of F_166.1, J_166_0]
  rfl
theorem F_167 : (mT 167).2.2.1 = 2 ∧ (mwd 167).1 = 0 ∧ mcl 167 = 0 := by decide +kernel
theorem G_167 : cdl.getD 167 [] = cd_167 := rfl
theorem J_167_0 : jmp 167 0 = k_167_0 := by unfold jmp; rw [G_167]; rfl
theorem J_167_10 : jmp 167 10 = k_167_10 := by unfold jmp; rw [G_167]; rfl
theorem J_167_16 : jmp 167 16 = k_167_16 := by unfold jmp; rw [G_167]; rfl
theorem J_167_38 : jmp 167 38 = k_167_38 := by unfold jmp; rw [G_167]; rfl
/-- FewEnds.few(I)I -/
theorem E_167 {x1 : Int} (h : knd Sh a = 0) : evc X 167 [vR (some a), vI x1] Sh M = ev X 167 k_167_0 [some (vR (some a)), some (vI x1)] [] Sh M := by
  rw [evc_go (by rw [F_167.1]; show 2 ≤ 2; omega) (rcv_v F_167.2.1 F_167.2.2 h), mkls_of F_167.1, J_167_0]
  rfl
theorem F_168 : (mT 168).2.2.1 = 3 ∧ (mwd 168).1 = 0 ∧ mcl 168 = 8 := by decide +kernel
theorem G_168 : cdl.getD 168 [] = cd_168 := rfl
theorem J_168_0 : jmp 168 0 = k_168_0 := by unfold jmp; rw [G_168]; rfl
theorem J_168_7 : jmp 168 7 = k_168_7 := by unfold jmp; rw [G_168]; rfl
theorem J_168_91 : jmp 168 91 = k_168_91 := by unfold jmp; rw [G_168]; rfl
/-- FewEnds$Alterations.tell(I)V -/
theorem E_168 {x1 : Int} (h : knd Sh a = 8) : evc X 168 [vR (some a), vI x1] Sh M = ev X 168 k_168_0 [some (vR (some a)), some (vI x1), none] [] Sh M := by
  rw [evc_go (by rw [F_168.1]; show 2 ≤ 3; omega) (rcv_v F_168.2.1 F_168.2.2 h), mkls_of F_168.1, J_168_0]
  rfl
theorem F_169 : (mT 169).2.2.1 = 3 ∧ (mwd 169).1 = 0 ∧ mcl 169 = 0 := by decide +kernel
theorem G_169 : cdl.getD 169 [] = cd_169 := rfl
theorem J_169_0 : jmp 169 0 = k_169_0 := by unfold jmp; rw [G_169]; rfl
theorem J_169_9 : jmp 169 9 = k_169_9 := by unfold jmp; rw [G_169]; rfl
theorem J_169_15 : jmp 169 15 = k_169_15 := by unfold jmp; rw [G_169]; rfl
theorem J_169_30 : jmp 169 30 = k_169_30 := by unfold jmp; rw [G_169]; rfl
theorem J_169_37 : jmp 169 37 = k_169_37 := by unfold jmp; rw [G_169]; rfl
/-- FewEnds.fewAt(II)I -/
theorem E_169 {x1 : Int} {x2 : Int} (h : knd Sh a = 0) : evc X 169 [vR (some a), vI x1, vI x2] Sh M = ev X 169 k_169_0 [some (vR (some a)), some (vI x1), some (vI x2)] [] Sh M := by
  rw [evc_go (by rw [F_169.1]; show 3 ≤ 3; omega) (rcv_v F_169.2.1 F_169.2.2 h), mkls_of F_169.1, J_169_0]
  rfl
theorem F_170 : (mT 170).2.2.1 = 4 ∧ (mwd 170).1 = 0 ∧ mcl 170 = 8 := by decide +kernel
theorem G_170 : cdl.getD 170 [] = cd_170 := rfl
theorem J_170_0 : jmp 170 0 = k_170_0 := by unfold jmp; rw [G_170]; rfl
theorem J_170_36 : jmp 170 36 = k_170_36 := by unfold jmp; rw [G_170]; rfl
theorem J_170_37 : jmp 170 37 = k_170_37 := by unfold jmp; rw [G_170]; rfl
/-- FewEnds$Alterations.toldAt(II)I -/
theorem E_170 {x1 : Int} {x2 : Int} (h : knd Sh a = 8) : evc X 170 [vR (some a), vI x1, vI x2] Sh M = ev X 170 k_170_0 [some (vR (some a)), some (vI x1), some (vI x2), none] [] Sh M := by
  rw [evc_go (by rw [F_170.1]; show 3 ≤ 4; omega) (rcv_v F_170.2.1 F_170.2.2 h), mkls_of F_170.1, J_170_0]
  rfl
theorem F_171 : (mT 171).2.2.1 = 1 ∧ (mwd 171).1 = 0 ∧ mcl 171 = 0 := by decide +kernel
theorem G_171 : cdl.getD 171 [] = cd_171 := rfl
theorem J_171_0 : jmp 171 0 = k_171_0 := by unfold jmp; rw [G_171]; rfl
theorem J_171_19 : jmp 171 19 = k_171_19 := by unfold jmp; rw [G_171]; rfl
/-- FewEnds.sewn()I -/
theorem E_171 (h : knd Sh a = 0) : evc X 171 [vR (some a)] Sh M = ev X 171 k_171_0 [some (vR (some a))] [] Sh M := by
  rw [evc_go (by rw [F_171.1]; show 1 ≤ 1; omega) (rcv_v F_171.2.1 F_171.2.2 h), mkls_of F_171.1, J_171_0]
  rfl
theorem F_172 : (mT 172).2.2.1 = 5 ∧ (mwd 172).1 = 0 ∧ mcl 172 = 0 := by decide +kernel
theorem G_172 : cdl.getD 172 [] = cd_172 := rfl
theorem J_172_0 : jmp 172 0 = k_172_0 := by unfold jmp; rw [G_172]; rfl
theorem J_172_10 : jmp 172 10 = k_172_10 := by unfold jmp; rw [G_172]; rfl
theorem J_172_43 : jmp 172 43 = k_172_43 := by unfold jmp; rw [G_172]; rfl
theorem J_172_49 : jmp 172 49 = k_172_49 := by unfold jmp; rw [G_172]; rfl
/-- FewEnds.bestSet()I -/
theorem E_172 (h : knd Sh a = 0) : evc X 172 [vR (some a)] Sh M = ev X 172 k_172_0 [some (vR (some a)), none, none, none, none] [] Sh M := by
  rw [evc_go (by rw [F_172.1]; show 1 ≤ 5; omega) (rcv_v F_172.2.1 F_172.2.2 h), mkls_of F_172.1, J_172_0]
  rfl
theorem F_173 : (mT 173).2.2.1 = 4 ∧ (mwd 173).1 = 0 ∧ mcl 173 = 0 := by decide +kernel
theorem G_173 : cdl.getD 173 [] = cd_173 := rfl
theorem J_173_0 : jmp 173 0 = k_173_0 := by unfold jmp; rw [G_173]; rfl
theorem J_173_15 : jmp 173 15 = k_173_15 := by unfold jmp; rw [G_173]; rfl
theorem J_173_55 : jmp 173 55 = k_173_55 := by unfold jmp; rw [G_173]; rfl
theorem J_173_61 : jmp 173 61 = k_173_61 := by unfold jmp; rw [G_173]; rfl
/-- FewEnds.costOfSet(I)I -/
theorem E_173 {x1 : Int} (h : knd Sh a = 0) : evc X 173 [vR (some a), vI x1] Sh M = ev X 173 k_173_0 [some (vR (some a)), some (vI x1), none, none] [] Sh M := by
  rw [evc_go (by rw [F_173.1]; show 2 ≤ 4; omega) (rcv_v F_173.2.1 F_173.2.2 h), mkls_of F_173.1, J_173_0]
  rfl
theorem F_174 : (mT 174).2.2.1 = 1 ∧ (mwd 174).1 = 0 ∧ mcl 174 = 0 := by decide +kernel
theorem G_174 : cdl.getD 174 [] = cd_174 := rfl
theorem J_174_0 : jmp 174 0 = k_174_0 := by unfold jmp; rw [G_174]; rfl
theorem J_174_19 : jmp 174 19 = k_174_19 := by unfold jmp; rw [G_174]; rfl
/-- FewEnds.sewnCost()I -/
theorem E_174 (h : knd Sh a = 0) : evc X 174 [vR (some a)] Sh M = ev X 174 k_174_0 [some (vR (some a))] [] Sh M := by
  rw [evc_go (by rw [F_174.1]; show 1 ≤ 1; omega) (rcv_v F_174.2.1 F_174.2.2 h), mkls_of F_174.1, J_174_0]
  rfl
theorem F_175 : (mT 175).2.2.1 = 4 ∧ (mwd 175).1 = 0 ∧ mcl 175 = 0 := by decide +kernel
theorem G_175 : cdl.getD 175 [] = cd_175 := rfl
theorem J_175_0 : jmp 175 0 = k_175_0 := by unfold jmp; rw [G_175]; rfl
theorem J_175_22 : jmp 175 22 = k_175_22 := by unfold jmp; rw [G_175]; rfl
theorem J_175_37 : jmp 175 37 = k_175_37 := by unfold jmp; rw [G_175]; rfl
theorem J_175_76 : jmp 175 76 = k_175_76 := by unfold jmp; rw [G_175]; rfl
theorem J_175_79 : jmp 175 79 = k_175_79 := by unfold jmp; rw [G_175]; rfl
theorem J_175_85 : jmp 175 85 = k_175_85 := by unfold jmp; rw [G_175]; rfl
/-- FewEnds.patches(I)I -/
theorem E_175 {x1 : Int} (h : knd Sh a = 0) : evc X 175 [vR (some a), vI x1] Sh M = ev X 175 k_175_0 [some (vR (some a)), some (vI x1), none, none] [] Sh M := by
  rw [evc_go (by rw [F_175.1]; show 2 ≤ 4; omega) (rcv_v F_175.2.1 F_175.2.2 h), mkls_of F_175.1, J_175_0]
  rfl
theorem F_176 : (mT 176).2.2.1 = 6 ∧ (mwd 176).1 = 0 ∧ mcl 176 = 2 := by decide +kernel
theorem G_176 : cdl.getD 176 [] = cd_176 := rfl
theorem J_176_0 : jmp 176 0 = k_176_0 := by unfold jmp; rw [G_176]; rfl
theorem J_176_7 : jmp 176 7 = k_176_7 := by unfold jmp; rw [G_176]; rfl
theorem J_176_22 : jmp 176 22 = k_176_22 := by unfold jmp; rw [G_176]; rfl
theorem J_176_27 : jmp 176 27 = k_176_27 := by unfold jmp; rw [G_176]; rfl
theorem J_176_42 : jmp 176 42 = k_176_42 := by unfold jmp; rw [G_176]; rfl
theorem J_176_86 : jmp 176 86 = k_176_86 := by unfold jmp; rw [G_176]; rfl
theorem J_176_92 : jmp 176 92 = k_176_92 := by unfold jmp; rw [G_176]; rfl
/-- FewEnds$Chart.group([I)V -/
theorem E_176 {x1 : Option Nat} (h : knd Sh a = 2) : evc X 176 [vR (some a), vR x1] Sh M = ev X 176 k_176_0 [some (vR (some a)), some (vR x1), none, none, none, none] [] Sh M := by
  rw [evc_go (by rw [F_176.1]; show 2 ≤ 6; omega) (rcv_v F_176.2.1 F_176.2.2 h), mkls_of F_176.1, J_176_0]
  rfl
theorem F_177 : (mT 177).2.2.1 = 3 ∧ (mwd 177).1 = 0 ∧ mcl 177 = 2 := by decide +kernel
theorem G_177 : cdl.getD 177 [] = cd_177 := rfl
theorem J_177_0 : jmp 177 0 = k_177_0 := by unfold jmp; rw [G_177]; rfl
theorem J_177_31 : jmp 177 31 = k_177_31 := by unfold jmp; rw [G_177]; rfl
theorem J_177_56 : jmp 177 56 = k_177_56 := by unfold jmp; rw [G_177]; rfl
theorem J_177_57 : jmp 177 57 = k_177_57 := by unfold jmp; rw [G_177]; rfl
/-- FewEnds$Chart.stitchAtRightOf(I)I -/
theorem E_177 {x1 : Int} (h : knd Sh a = 2) : evc X 177 [vR (some a), vI x1] Sh M = ev X 177 k_177_0 [some (vR (some a)), some (vI x1), none] [] Sh M := by
  rw [evc_go (by rw [F_177.1]; show 2 ≤ 3; omega) (rcv_v F_177.2.1 F_177.2.2 h), mkls_of F_177.1, J_177_0]
  rfl
theorem F_178 : (mT 178).2.2.1 = 5 ∧ (mwd 178).1 = 0 ∧ mcl 178 = 2 := by decide +kernel
theorem G_178 : cdl.getD 178 [] = cd_178 := rfl
theorem J_178_0 : jmp 178 0 = k_178_0 := by unfold jmp; rw [G_178]; rfl
theorem J_178_29 : jmp 178 29 = k_178_29 := by unfold jmp; rw [G_178]; rfl
theorem J_178_31 : jmp 178 31 = k_178_31 := by unfold jmp; rw [G_178]; rfl
/-- FewEnds$Chart.groupWith([III)Z -/
theorem E_178 {x1 : Option Nat} {x2 : Int} {x3 : Int} (h : knd Sh a = 2) : evc X 178 [vR (some a), vR x1, vI x2, vI x3] Sh M = ev X 178 k_178_0 [some (vR (some a)), some (vR x1), some (vI x2), some (vI x3), none] [] Sh M := by
  rw [evc_go (by rw [F_178.1]; show 4 ≤ 5; omega) (rcv_v F_178.2.1 F_178.2.2 h), mkls_of F_178.1, J_178_0]
  rfl
theorem F_179 : (mT 179).2.2.1 = 2 ∧ (mwd 179).1 = 0 ∧ mcl 179 = 2 := by decide +kernel
theorem G_179 : cdl.getD 179 [] = cd_179 := rfl
theorem J_179_0 : jmp 179 0 = k_179_0 := by unfold jmp; rw [G_179]; rfl
theorem J_179_36 : jmp 179 36 = k_179_36 := by unfold jmp; rw [G_179]; rfl
theorem J_179_37 : jmp 179 37 = k_179_37 := by unfold jmp; rw [G_179]; rfl
/-- FewEnds$Chart.stitchBelow(I)I -/
theorem E_179 {x1 : Int} (h : knd Sh a = 2) : evc X 179 [vR (some a), vI x1] Sh M = ev X 179 k_179_0 [some (vR (some a)), some (vI x1)] [] Sh M := by
  rw [evc_go (by rw [F_179.1]; show 2 ≤ 2; omega) (rcv_v F_179.2.1 F_179.2.2 h), mkls_of F_179.1, J_179_0]
  rfl
theorem F_180 : (mT 180).2.2.1 = 3 ∧ (mwd 180).1 = 0 ∧ mcl 180 = 0 := by decide +kernel
theorem G_180 : cdl.getD 180 [] = cd_180 := rfl
theorem J_180_0 : jmp 180 0 = k_180_0 := by unfold jmp; rw [G_180]; rfl
theorem J_180_20 : jmp 180 20 = k_180_20 := by unfold jmp; rw [G_180]; rfl
theorem J_180_26 : jmp 180 26 = k_180_26 := by unfold jmp; rw [G_180]; rfl
theorem J_180_53 : jmp 180 53 = k_180_53 := by unfold jmp; rw [G_180]; rfl
theorem J_180_71 : jmp 180 71 = k_180_71 := by unfold jmp; rw [G_180]; rfl
theorem J_180_81 : jmp 180 81 = k_180_81 := by unfold jmp; rw [G_180]; rfl
/-- FewEnds.patch(II)I -/
theorem E_180 {x1 : Int} {x2 : Int} (h : knd Sh a = 0) : evc X 180 [vR (some a), vI x1, vI x2] Sh M = ev X 180 k_180_0 [some (vR (some a)), some (vI x1), some (vI x2)] [] Sh M := by
  rw [evc_go (by rw [F_180.1]; show 3 ≤ 3; omega) (rcv_v F_180.2.1 F_180.2.2 h), mkls_of F_180.1, J_180_0]
  rfl
theorem F_181 : (mT 181).2.2.1 = 4 ∧ (mwd 181).1 = 0 ∧ mcl 181 = 0 := by decide +kernel
theorem G_181 : cdl.getD 181 [] = cd_181 := rfl
theorem J_181_0 : jmp 181 0 = k_181_0 := by unfold jmp; rw [G_181]; rfl
theorem J_181_4 : jmp 181 4 = k_181_4 := by unfold jmp; rw [G_181]; rfl
theorem J_181_28 : jmp 181 28 = k_181_28 := by unfold jmp; rw [G_181]; rfl
theorem J_181_34 : jmp 181 34 = k_181_34 := by unfold jmp; rw [G_181]; rfl
/-- FewEnds.stitchesInGroup(I)I -/
theorem E_181 {x1 : Int} (h : knd Sh a = 0) : evc X 181 [vR (some a), vI x1] Sh M = ev X 181 k_181_0 [some (vR (some a)), some (vI x1), none, none] [] Sh M := by
  rw [evc_go (by rw [F_181.1]; show 2 ≤ 4; omega) (rcv_v F_181.2.1 F_181.2.2 h), mkls_of F_181.1, J_181_0]
  rfl
theorem F_182 : (mT 182).2.2.1 = 5 ∧ (mwd 182).1 = 0 ∧ mcl 182 = 0 := by decide +kernel
theorem G_182 : cdl.getD 182 [] = cd_182 := rfl
theorem J_182_0 : jmp 182 0 = k_182_0 := by unfold jmp; rw [G_182]; rfl
theorem J_182_7 : jmp 182 7 = k_182_7 := by unfold jmp; rw [G_182]; rfl
theorem J_182_58 : jmp 182 58 = k_182_58 := by unfold jmp; rw [G_182]; rfl
theorem J_182_64 : jmp 182 64 = k_182_64 := by unfold jmp; rw [G_182]; rfl
/-- FewEnds.rowsOfGroup(I)I -/
theorem E_182 {x1 : Int} (h : knd Sh a = 0) : evc X 182 [vR (some a), vI x1] Sh M = ev X 182 k_182_0 [some (vR (some a)), some (vI x1), none, none, none] [] Sh M := by
  rw [evc_go (by rw [F_182.1]; show 2 ≤ 5; omega) (rcv_v F_182.2.1 F_182.2.2 h), mkls_of F_182.1, J_182_0]
  rfl
theorem F_183 : (mT 183).2.2.1 = 4 ∧ (mwd 183).1 = 0 ∧ mcl 183 = 0 := by decide +kernel
theorem G_183 : cdl.getD 183 [] = cd_183 := rfl
theorem J_183_0 : jmp 183 0 = k_183_0 := by unfold jmp; rw [G_183]; rfl
theorem J_183_10 : jmp 183 10 = k_183_10 := by unfold jmp; rw [G_183]; rfl
theorem J_183_16 : jmp 183 16 = k_183_16 := by unfold jmp; rw [G_183]; rfl
theorem J_183_20 : jmp 183 20 = k_183_20 := by unfold jmp; rw [G_183]; rfl
theorem J_183_45 : jmp 183 45 = k_183_45 := by unfold jmp; rw [G_183]; rfl
theorem J_183_51 : jmp 183 51 = k_183_51 := by unfold jmp; rw [G_183]; rfl
/-- FewEnds.machine(I)I -/
theorem E_183 {x1 : Int} (h : knd Sh a = 0) : evc X 183 [vR (some a), vI x1] Sh M = ev X 183 k_183_0 [some (vR (some a)), some (vI x1), none, none] [] Sh M := by
  rw [evc_go (by rw [F_183.1]; show 2 ≤ 4; omega) (rcv_v F_183.2.1 F_183.2.2 h), mkls_of F_183.1, J_183_0]
  rfl
theorem F_184 : (mT 184).2.2.1 = 7 ∧ (mwd 184).1 = 0 ∧ mcl 184 = 0 := by decide +kernel
theorem G_184 : cdl.getD 184 [] = cd_184 := rfl
theorem J_184_0 : jmp 184 0 = k_184_0 := by unfold jmp; rw [G_184]; rfl
theorem J_184_13 : jmp 184 13 = k_184_13 := by unfold jmp; rw [G_184]; rfl
theorem J_184_81 : jmp 184 81 = k_184_81 := by unfold jmp; rw [G_184]; rfl
theorem J_184_87 : jmp 184 87 = k_184_87 := by unfold jmp; rw [G_184]; rfl
theorem J_184_90 : jmp 184 90 = k_184_90 := by unfold jmp; rw [G_184]; rfl
theorem J_184_102 : jmp 184 102 = k_184_102 := by unfold jmp; rw [G_184]; rfl
theorem J_184_129 : jmp 184 129 = k_184_129 := by unfold jmp; rw [G_184]; rfl
theorem J_184_135 : jmp 184 135 = k_184_135 := by unfold jmp; rw [G_184]; rfl
theorem J_184_159 : jmp 184 159 = k_184_159 := by unfold jmp; rw [G_184]; rfl
/-- FewEnds.stitchesTooMany(II)I -/
theorem E_184 {x1 : Int} {x2 : Int} (h : knd Sh a = 0) : evc X 184 [vR (some a), vI x1, vI x2] Sh M = ev X 184 k_184_0 [some (vR (some a)), some (vI x1), some (vI x2), none, none, none, none] [] Sh M := by
  rw [evc_go (by rw [F_184.1]; show 3 ≤ 7; omega) (rcv_v F_184.2.1 F_184.2.2 h), mkls_of F_184.1, J_184_0]
  rfl
theorem F_185 : (mT 185).2.2.1 = 3 ∧ (mwd 185).1 = 0 ∧ mcl 185 = 0 := by decide +kernel
theorem G_185 : cdl.getD 185 [] = cd_185 := rfl
theorem J_185_0 : jmp 185 0 = k_185_0 := by unfold jmp; rw [G_185]; rfl
theorem J_185_21 : jmp 185 21 = k_185_21 := by unfold jmp; rw [G_185]; rfl
theorem J_185_27 : jmp 185 27 = k_185_27 := by unfold jmp; rw [G_185]; rfl
/-- FewEnds.lessened(II)I -/
theorem E_185 {x1 : Int} {x2 : Int} (h : knd Sh a = 0) : evc X 185 [vR (some a), vI x1, vI x2] Sh M = ev X 185 k_185_0 [some (vR (some a)), some (vI x1), some (vI x2)] [] Sh M := by
  rw [evc_go (by rw [F_185.1]; show 3 ≤ 3; omega) (rcv_v F_185.2.1 F_185.2.2 h), mkls_of F_185.1, J_185_0]
  rfl
theorem F_186 : (mT 186).2.2.1 = 2 ∧ (mwd 186).1 = 0 ∧ mcl 186 = 0 := by decide +kernel
theorem G_186 : cdl.getD 186 [] = cd_186 := rfl
theorem J_186_0 : jmp 186 0 = k_186_0 := by unfold jmp; rw [G_186]; rfl
theorem J_186_17 : jmp 186 17 = k_186_17 := by unfold jmp; rw [G_186]; rfl
/-- FewEnds.behind(I)I -/
theorem E_186 {x1 : Int} (h : knd Sh a = 0) : evc X 186 [vR (some a), vI x1] Sh M = ev X 186 k_186_0 [some (vR (some a)), some (vI x1)] [] Sh M := by
  rw [evc_go (by rw [F_186.1]; show 2 ≤ 2; omega) (rcv_v F_186.2.1 F_186.2.2 h), mkls_of F_186.1, J_186_0]
  rfl
theorem F_187 : (mT 187).2.2.1 = 5 ∧ (mwd 187).1 = 0 ∧ mcl 187 = 3 := by decide +kernel
theorem G_187 : cdl.getD 187 [] = cd_187 := rfl
theorem J_187_0 : jmp 187 0 = k_187_0 := by unfold jmp; rw [G_187]; rfl
theorem J_187_5 : jmp 187 5 = k_187_5 := by unfold jmp; rw [G_187]; rfl
theorem J_187_41 : jmp 187 41 = k_187_41 := by unfold jmp; rw [G_187]; rfl
theorem J_187_47 : jmp 187 47 = k_187_47 := by unfold jmp; rw [G_187]; rfl
/-- FewEnds$Plan.linksBehind(LFewEnds$Chart;I)I -/
theorem E_187 {x1 : Option Nat} {x2 : Int} (h : knd Sh a = 3) : evc X 187 [vR (some a), vR x1, vI x2] Sh M = ev X 187 k_187_0 [some (vR (some a)), some (vR x1), some (vI x2), none, none] [] Sh M := by
  rw [evc_go (by rw [F_187.1]; show 3 ≤ 5; omega) (rcv_v F_187.2.1 F_187.2.2 h), mkls_of F_187.1, J_187_0]
  rfl
theorem F_188 : (mT 188).2.2.1 = 3 ∧ (mwd 188).1 = 0 ∧ mcl 188 = 0 := by decide +kernel
theorem G_188 : cdl.getD 188 [] = cd_188 := rfl
theorem J_188_0 : jmp 188 0 = k_188_0 := by unfold jmp; rw [G_188]; rfl
theorem J_188_4 : jmp 188 4 = k_188_4 := by unfold jmp; rw [G_188]; rfl
theorem J_188_38 : jmp 188 38 = k_188_38 := by unfold jmp; rw [G_188]; rfl
/-- FewEnds.thickest()I -/
theorem E_188 (h : knd Sh a = 0) : evc X 188 [vR (some a)] Sh M = ev X 188 k_188_0 [some (vR (some a)), none, none] [] Sh M := by
  rw [evc_go (by rw [F_188.1]; show 1 ≤ 3; omega) (rcv_v F_188.2.1 F_188.2.2 h), mkls_of F_188.1, J_188_0]
  rfl
theorem F_189 : (mT 189).2.2.1 = 1 ∧ (mwd 189).1 = 0 ∧ mcl 189 = 0 := by decide +kernel
theorem G_189 : cdl.getD 189 [] = cd_189 := rfl
theorem J_189_0 : jmp 189 0 = k_189_0 := by unfold jmp; rw [G_189]; rfl
/-- FewEnds.mirrored()I -/
theorem E_189 (h : knd Sh a = 0) : evc X 189 [vR (some a)] Sh M = ev X 189 k_189_0 [some (vR (some a))] [] Sh M := by
  rw [evc_go (by rw [F_189.1]; show 1 ≤ 1; omega) (rcv_v F_189.2.1 F_189.2.2 h), mkls_of F_189.1, J_189_0]
  rfl
theorem F_190 : (mT 190).2.2.1 = 7 ∧ (mwd 190).1 = 0 ∧ mcl 190 = 2 := by decide +kernel
theorem G_190 : cdl.getD 190 [] = cd_190 := rfl
theorem J_190_0 : jmp 190 0 = k_190_0 := by unfold jmp; rw [G_190]; rfl
theorem J_190_11 : jmp 190 11 = k_190_11 := by unfold jmp; rw [G_190]; rfl
theorem J_190_24 : jmp 190 24 = k_190_24 := by unfold jmp; rw [G_190]; rfl
theorem J_190_86 : jmp 190 86 = k_190_86 := by unfold jmp; rw [G_190]; rfl
theorem J_190_92 : jmp 190 92 = k_190_92 := by unfold jmp; rw [G_190]; rfl
theorem J_190_98 : jmp 190 98 = k_190_98 := by unfold jmp; rw [G_190]; rfl
/-- FewEnds$Chart.mirror()I -/
theorem E_190 (h : knd Sh a = 2) : evc X 190 [vR (some a)] Sh M = ev X 190 k_190_0 [some (vR (some a)), none, none, none, none, none, none] [] Sh M := by
  rw [evc_go (by rw [F_190.1]; show 1 ≤ 7; omega) (rcv_v F_190.2.1 F_190.2.2 h), mkls_of F_190.1, J_190_0]
  rfl
theorem F_191 : (mT 191).2.2.1 = 1 ∧ (mwd 191).1 = 0 ∧ mcl 191 = 0 := by decide +kernel
theorem G_191 : cdl.getD 191 [] = cd_191 := rfl
theorem J_191_0 : jmp 191 0 = k_191_0 := by unfold jmp; rw [G_191]; rfl
/-- FewEnds.mirrorLeast()I -/
theorem E_191 (h : knd Sh a = 0) : evc X 191 [vR (some a)] Sh M = ev X 191 k_191_0 [some (vR (some a))] [] Sh M := by
  rw [evc_go (by rw [F_191.1]; show 1 ≤ 1; omega) (rcv_v F_191.2.1 F_191.2.2 h), mkls_of F_191.1, J_191_0]
  rfl
theorem F_192 : (mT 192).2.2.1 = 5 ∧ (mwd 192).1 = 0 ∧ mcl 192 = 0 := by decide +kernel
theorem G_192 : cdl.getD 192 [] = cd_192 := rfl
theorem J_192_0 : jmp 192 0 = k_192_0 := by unfold jmp; rw [G_192]; rfl
theorem J_192_22 : jmp 192 22 = k_192_22 := by unfold jmp; rw [G_192]; rfl
theorem J_192_28 : jmp 192 28 = k_192_28 := by unfold jmp; rw [G_192]; rfl
theorem J_192_33 : jmp 192 33 = k_192_33 := by unfold jmp; rw [G_192]; rfl
theorem J_192_102 : jmp 192 102 = k_192_102 := by unfold jmp; rw [G_192]; rfl
theorem J_192_108 : jmp 192 108 = k_192_108 := by unfold jmp; rw [G_192]; rfl
/-- FewEnds.lasts(II)I -/
theorem E_192 {x1 : Int} {x2 : Int} (h : knd Sh a = 0) : evc X 192 [vR (some a), vI x1, vI x2] Sh M = ev X 192 k_192_0 [some (vR (some a)), some (vI x1), some (vI x2), none, none] [] Sh M := by
  rw [evc_go (by rw [F_192.1]; show 3 ≤ 5; omega) (rcv_v F_192.2.1 F_192.2.2 h), mkls_of F_192.1, J_192_0]
  rfl
theorem F_193 : (mT 193).2.2.1 = 5 ∧ (mwd 193).1 = 0 ∧ mcl 193 = 0 := by decide +kernel
theorem G_193 : cdl.getD 193 [] = cd_193 := rfl
theorem J_193_0 : jmp 193 0 = k_193_0 := by unfold jmp; rw [G_193]; rfl
theorem J_193_22 : jmp 193 22 = k_193_22 := by unfold jmp; rw [G_193]; rfl
theorem J_193_28 : jmp 193 28 = k_193_28 := by unfold jmp; rw [G_193]; rfl
theorem J_193_52 : jmp 193 52 = k_193_52 := by unfold jmp; rw [G_193]; rfl
theorem J_193_58 : jmp 193 58 = k_193_58 := by unfold jmp; rw [G_193]; rfl
/-- FewEnds.window(IIII)I -/
theorem E_193 {x1 : Int} {x2 : Int} {x3 : Int} {x4 : Int} (h : knd Sh a = 0) : evc X 193 [vR (some a), vI x1, vI x2, vI x3, vI x4] Sh M = ev X 193 k_193_0 [some (vR (some a)), some (vI x1), some (vI x2), some (vI x3), some (vI x4)] [] Sh M := by
  rw [evc_go (by rw [F_193.1]; show 5 ≤ 5; omega) (rcv_v F_193.2.1 F_193.2.2 h), mkls_of F_193.1, J_193_0]
  rfl
theorem F_194 : (mT 194).2.2.1 = 9 ∧ (mwd 194).1 = 0 ∧ mcl 194 = 2 := by decide +kernel
theorem G_194 : cdl.getD 194 [] = cd_194 := rfl
theorem J_194_0 : jmp 194 0 = k_194_0 := by unfold jmp; rw [G_194]; rfl
theorem J_194_37 : jmp 194 37 = k_194_37 := by unfold jmp; rw [G_194]; rfl
theorem J_194_47 : jmp 194 47 = k_194_47 := by unfold jmp; rw [G_194]; rfl
theorem J_194_82 : jmp 194 82 = k_194_82 := by unfold jmp; rw [G_194]; rfl
theorem J_194_88 : jmp 194 88 = k_194_88 := by unfold jmp; rw [G_194]; rfl
/-- FewEnds$Chart.cutOut(IIII)V -/
theorem E_194 {x1 : Int} {x2 : Int} {x3 : Int} {x4 : Int} (h : knd Sh a = 2) : evc X 194 [vR (some a), vI x1, vI x2, vI x3, vI x4] Sh M = ev X 194 k_194_0 [some (vR (some a)), some (vI x1), some (vI x2), some (vI x3), some (vI x4), none, none, none, none] [] Sh M := by
  rw [evc_go (by rw [F_194.1]; show 5 ≤ 9; omega) (rcv_v F_194.2.1 F_194.2.2 h), mkls_of F_194.1, J_194_0]
  rfl
theorem F_195 : (mT 195).2.2.1 = 2 ∧ (mwd 195).1 = 0 ∧ mcl 195 = 0 := by decide +kernel
theorem G_195 : cdl.getD 195 [] = cd_195 := rfl
theorem J_195_0 : jmp 195 0 = k_195_0 := by unfold jmp; rw [G_195]; rfl
theorem J_195_17 : jmp 195 17 = k_195_17 := by unfold jmp; rw [G_195]; rfl
/-- FewEnds.seam(I)I -/
theorem E_195 {x1 : Int} (h : knd Sh a = 0) : evc X 195 [vR (some a), vI x1] Sh M = ev X 195 k_195_0 [some (vR (some a)), some (vI x1)] [] Sh M := by
  rw [evc_go (by rw [F_195.1]; show 2 ≤ 2; omega) (rcv_v F_195.2.1 F_195.2.2 h), mkls_of F_195.1, J_195_0]
  rfl
theorem F_196 : (mT 196).2.2.1 = 7 ∧ (mwd 196).1 = 0 ∧ mcl 196 = 2 := by decide +kernel
theorem G_196 : cdl.getD 196 [] = cd_196 := rfl
theorem J_196_0 : jmp 196 0 = k_196_0 := by unfold jmp; rw [G_196]; rfl
theorem J_196_20 : jmp 196 20 = k_196_20 := by unfold jmp; rw [G_196]; rfl
theorem J_196_62 : jmp 196 62 = k_196_62 := by unfold jmp; rw [G_196]; rfl
theorem J_196_68 : jmp 196 68 = k_196_68 := by unfold jmp; rw [G_196]; rfl
/-- FewEnds$Chart.matchesBy(I)I -/
theorem E_196 {x1 : Int} (h : knd Sh a = 2) : evc X 196 [vR (some a), vI x1] Sh M = ev X 196 k_196_0 [some (vR (some a)), some (vI x1), none, none, none, none, none] [] Sh M := by
  rw [evc_go (by rw [F_196.1]; show 2 ≤ 7; omega) (rcv_v F_196.2.1 F_196.2.2 h), mkls_of F_196.1, J_196_0]
  rfl
theorem F_197 : (mT 197).2.2.1 = 3 ∧ (mwd 197).1 = 0 ∧ mcl 197 = 0 := by decide +kernel
theorem G_197 : cdl.getD 197 [] = cd_197 := rfl
theorem J_197_0 : jmp 197 0 = k_197_0 := by unfold jmp; rw [G_197]; rfl
theorem J_197_19 : jmp 197 19 = k_197_19 := by unfold jmp; rw [G_197]; rfl
theorem J_197_23 : jmp 197 23 = k_197_23 := by unfold jmp; rw [G_197]; rfl
theorem J_197_57 : jmp 197 57 = k_197_57 := by unfold jmp; rw [G_197]; rfl
theorem J_197_63 : jmp 197 63 = k_197_63 := by unfold jmp; rw [G_197]; rfl
/-- FewEnds.matched()I -/
theorem E_197 (h : knd Sh a = 0) : evc X 197 [vR (some a)] Sh M = ev X 197 k_197_0 [some (vR (some a)), none, none] [] Sh M := by
  rw [evc_go (by rw [F_197.1]; show 1 ≤ 3; omega) (rcv_v F_197.2.1 F_197.2.2 h), mkls_of F_197.1, J_197_0]
  rfl
theorem F_198 : (mT 198).2.2.1 = 3 ∧ (mwd 198).1 = 0 ∧ mcl 198 = 0 := by decide +kernel
theorem G_198 : cdl.getD 198 [] = cd_198 := rfl
theorem J_198_0 : jmp 198 0 = k_198_0 := by unfold jmp; rw [G_198]; rfl
theorem J_198_23 : jmp 198 23 = k_198_23 := by unfold jmp; rw [G_198]; rfl
theorem J_198_29 : jmp 198 29 = k_198_29 := by unfold jmp; rw [G_198]; rfl
/-- FewEnds.buy(II)I -/
theorem E_198 {x1 : Int} {x2 : Int} (h : knd Sh a = 0) : evc X 198 [vR (some a), vI x1, vI x2] Sh M = ev X 198 k_198_0 [some (vR (some a)), some (vI x1), some (vI x2)] [] Sh M := by
  rw [evc_go (by rw [F_198.1]; show 3 ≤ 3; omega) (rcv_v F_198.2.1 F_198.2.2 h), mkls_of F_198.1, J_198_0]
  rfl
theorem F_199 : (mT 199).2.2.1 = 2 ∧ (mwd 199).1 = 1 ∧ mcl 199 = 0 := by decide +kernel
theorem G_199 : cdl.getD 199 [] = cd_199 := rfl
theorem J_199_0 : jmp 199 0 = k_199_0 := by unfold jmp; rw [G_199]; rfl
theorem J_199_14 : jmp 199 14 = k_199_14 := by unfold jmp; rw [G_199]; rfl
theorem J_199_15 : jmp 199 15 = k_199_15 := by unfold jmp; rw [G_199]; rfl
/-- FewEnds.balls(II)I -/
theorem E_199 {x1 : Int} {x2 : Int} : evc X 199 [vI x1, vI x2] Sh M = ev X 199 k_199_0 [some (vI x1), some (vI x2)] [] Sh M := by
  rw [evc_go (by rw [F_199.1]; show 2 ≤ 2; omega) (rcv_s F_199.2.1), mkls_of F_199.1, J_199_0]
  rfl
theorem F_200 : (mT 200).2.2.1 = 4 ∧ (mwd 200).1 = 0 ∧ mcl 200 = 0 := by decide +kernel
theorem G_200 : cdl.getD 200 [] = cd_200 := rfl
theorem J_200_0 : jmp 200 0 = k_200_0 := by unfold jmp; rw [G_200]; rfl
theorem J_200_12 : jmp 200 12 = k_200_12 := by unfold jmp; rw [G_200]; rfl
theorem J_200_18 : jmp 200 18 = k_200_18 := by unfold jmp; rw [G_200]; rfl
theorem J_200_22 : jmp 200 22 = k_200_22 := by unfold jmp; rw [G_200]; rfl
theorem J_200_67 : jmp 200 67 = k_200_67 := by unfold jmp; rw [G_200]; rfl
theorem J_200_73 : jmp 200 73 = k_200_73 := by unfold jmp; rw [G_200]; rfl
/-- FewEnds.runsOut(I)I -/
theorem E_200 {x1 : Int} (h : knd Sh a = 0) : evc X 200 [vR (some a), vI x1] Sh M = ev X 200 k_200_0 [some (vR (some a)), some (vI x1), none, none] [] Sh M := by
  rw [evc_go (by rw [F_200.1]; show 2 ≤ 4; omega) (rcv_v F_200.2.1 F_200.2.2 h), mkls_of F_200.1, J_200_0]
  rfl
theorem F_201 : (mT 201).2.2.1 = 1 ∧ (mwd 201).1 = 0 ∧ mcl 201 = 0 := by decide +kernel
theorem G_201 : cdl.getD 201 [] = cd_201 := rfl
theorem J_201_0 : jmp 201 0 = k_201_0 := by unfold jmp; rw [G_201]; rfl
/-- FewEnds.plain()I -/
theorem E_201 (h : knd Sh a = 0) : evc X 201 [vR (some a)] Sh M = ev X 201 k_201_0 [some (vR (some a))] [] Sh M := by
  rw [evc_go (by rw [F_201.1]; show 1 ≤ 1; omega) (rcv_v F_201.2.1 F_201.2.2 h), mkls_of F_201.1, J_201_0]
  rfl
theorem F_202 : (mT 202).2.2.1 = 5 ∧ (mwd 202).1 = 0 ∧ mcl 202 = 3 := by decide +kernel
theorem G_202 : cdl.getD 202 [] = cd_202 := rfl
theorem J_202_0 : jmp 202 0 = k_202_0 := by unfold jmp; rw [G_202]; rfl
theorem J_202_6 : jmp 202 6 = k_202_6 := by unfold jmp; rw [G_202]; rfl
theorem J_202_18 : jmp 202 18 = k_202_18 := by unfold jmp; rw [G_202]; rfl
theorem J_202_56 : jmp 202 56 = k_202_56 := by unfold jmp; rw [G_202]; rfl
theorem J_202_72 : jmp 202 72 = k_202_72 := by unfold jmp; rw [G_202]; rfl
theorem J_202_78 : jmp 202 78 = k_202_78 := by unfold jmp; rw [G_202]; rfl
theorem J_202_84 : jmp 202 84 = k_202_84 := by unfold jmp; rw [G_202]; rfl
/-- FewEnds$Plan.makePlain(LFewEnds$Chart;)V -/
theorem E_202 {x1 : Option Nat} (h : knd Sh a = 3) : evc X 202 [vR (some a), vR x1] Sh M = ev X 202 k_202_0 [some (vR (some a)), some (vR x1), none, none, none] [] Sh M := by
  rw [evc_go (by rw [F_202.1]; show 2 ≤ 5; omega) (rcv_v F_202.2.1 F_202.2.2 h), mkls_of F_202.1, J_202_0]
  rfl
theorem F_203 : (mT 203).2.2.1 = 1 ∧ (mwd 203).1 = 0 ∧ mcl 203 = 0 := by decide +kernel
theorem G_203 : cdl.getD 203 [] = cd_203 := rfl
theorem J_203_0 : jmp 203 0 = k_203_0 := by unfold jmp; rw [G_203]; rfl
/-- FewEnds.fill()I -/
theorem E_203 (h : knd Sh a = 0) : evc X 203 [vR (some a)] Sh M = ev X 203 k_203_0 [some (vR (some a))] [] Sh M := by
  rw [evc_go (by rw [F_203.1]; show 1 ≤ 1; omega) (rcv_v F_203.2.1 F_203.2.2 h), mkls_of F_203.1, J_203_0]
  rfl
theorem F_204 : (mT 204).2.2.1 = 5 ∧ (mwd 204).1 = 0 ∧ mcl 204 = 3 := by decide +kernel
theorem G_204 : cdl.getD 204 [] = cd_204 := rfl
theorem J_204_0 : jmp 204 0 = k_204_0 := by unfold jmp; rw [G_204]; rfl
theorem J_204_4 : jmp 204 4 = k_204_4 := by unfold jmp; rw [G_204]; rfl
theorem J_204_31 : jmp 204 31 = k_204_31 := by unfold jmp; rw [G_204]; rfl
theorem J_204_32 : jmp 204 32 = k_204_32 := by unfold jmp; rw [G_204]; rfl
theorem J_204_50 : jmp 204 50 = k_204_50 := by unfold jmp; rw [G_204]; rfl
theorem J_204_56 : jmp 204 56 = k_204_56 := by unfold jmp; rw [G_204]; rfl
/-- FewEnds$Plan.fillUp(LFewEnds$Chart;)I -/
theorem E_204 {x1 : Option Nat} (h : knd Sh a = 3) : evc X 204 [vR (some a), vR x1] Sh M = ev X 204 k_204_0 [some (vR (some a)), some (vR x1), none, none, none] [] Sh M := by
  rw [evc_go (by rw [F_204.1]; show 2 ≤ 5; omega) (rcv_v F_204.2.1 F_204.2.2 h), mkls_of F_204.1, J_204_0]
  rfl
theorem F_205 : (mT 205).2.2.1 = 6 ∧ (mwd 205).1 = 0 ∧ mcl 205 = 3 := by decide +kernel
theorem G_205 : cdl.getD 205 [] = cd_205 := rfl
theorem J_205_0 : jmp 205 0 = k_205_0 := by unfold jmp; rw [G_205]; rfl
theorem J_205_17 : jmp 205 17 = k_205_17 := by unfold jmp; rw [G_205]; rfl
theorem J_205_67 : jmp 205 67 = k_205_67 := by unfold jmp; rw [G_205]; rfl
theorem J_205_73 : jmp 205 73 = k_205_73 := by unfold jmp; rw [G_205]; rfl
/-- FewEnds$Plan.cheapestTo(LFewEnds$Chart;I)I -/
theorem E_205 {x1 : Option Nat} {x2 : Int} (h : knd Sh a = 3) : evc X 205 [vR (some a), vR x1, vI x2] Sh M = ev X 205 k_205_0 [some (vR (some a)), some (vR x1), some (vI x2), none, none, none] [] Sh M := by
  rw [evc_go (by rw [F_205.1]; show 3 ≤ 6; omega) (rcv_v F_205.2.1 F_205.2.2 h), mkls_of F_205.1, J_205_0]
  rfl
theorem F_206 : (mT 206).2.2.1 = 1 ∧ (mwd 206).1 = 0 ∧ mcl 206 = 0 := by decide +kernel
theorem G_206 : cdl.getD 206 [] = cd_206 := rfl
theorem J_206_0 : jmp 206 0 = k_206_0 := by unfold jmp; rw [G_206]; rfl
/-- FewEnds.tidy()I -/
theorem E_206 (h : knd Sh a = 0) : evc X 206 [vR (some a)] Sh M = ev X 206 k_206_0 [some (vR (some a))] [] Sh M := by
  rw [evc_go (by rw [F_206.1]; show 1 ≤ 1; omega) (rcv_v F_206.2.1 F_206.2.2 h), mkls_of F_206.1, J_206_0]
  rfl
theorem F_207 : (mT 207).2.2.1 = 5 ∧ (mwd 207).1 = 0 ∧ mcl 207 = 3 := by decide +kernel
theorem G_207 : cdl.getD 207 [] = cd_207 := rfl
theorem J_207_0 : jmp 207 0 = k_207_0 := by unfold jmp; rw [G_207]; rfl
theorem J_207_4 : jmp 207 4 = k_207_4 := by unfold jmp; rw [G_207]; rfl
theorem J_207_25 : jmp 207 25 = k_207_25 := by unfold jmp; rw [G_207]; rfl
theorem J_207_40 : jmp 207 40 = k_207_40 := by unfold jmp; rw [G_207]; rfl
/-- FewEnds$Plan.tidyUp(LFewEnds$Chart;)I -/
theorem E_207 {x1 : Option Nat} (h : knd Sh a = 3) : evc X 207 [vR (some a), vR x1] Sh M = ev X 207 k_207_0 [some (vR (some a)), some (vR x1), none, none, none] [] Sh M := by
  rw [evc_go (by rw [F_207.1]; show 2 ≤ 5; omega) (rcv_v F_207.2.1 F_207.2.2 h), mkls_of F_207.1, J_207_0]
  rfl
theorem F_208 : (mT 208).2.2.1 = 7 ∧ (mwd 208).1 = 0 ∧ mcl 208 = 3 := by decide +kernel
theorem G_208 : cdl.getD 208 [] = cd_208 := rfl
theorem J_208_0 : jmp 208 0 = k_208_0 := by unfold jmp; rw [G_208]; rfl
theorem J_208_11 : jmp 208 11 = k_208_11 := by unfold jmp; rw [G_208]; rfl
theorem J_208_68 : jmp 208 68 = k_208_68 := by unfold jmp; rw [G_208]; rfl
theorem J_208_74 : jmp 208 74 = k_208_74 := by unfold jmp; rw [G_208]; rfl
/-- FewEnds$Plan.worstLink(LFewEnds$Chart;)I -/
theorem E_208 {x1 : Option Nat} (h : knd Sh a = 3) : evc X 208 [vR (some a), vR x1] Sh M = ev X 208 k_208_0 [some (vR (some a)), some (vR x1), none, none, none, none, none] [] Sh M := by
  rw [evc_go (by rw [F_208.1]; show 2 ≤ 7; omega) (rcv_v F_208.2.1 F_208.2.2 h), mkls_of F_208.1, J_208_0]
  rfl
theorem F_209 : (mT 209).2.2.1 = 1 ∧ (mwd 209).1 = 0 ∧ mcl 209 = 0 := by decide +kernel
theorem G_209 : cdl.getD 209 [] = cd_209 := rfl
theorem J_209_0 : jmp 209 0 = k_209_0 := by unfold jmp; rw [G_209]; rfl
theorem J_209_17 : jmp 209 17 = k_209_17 := by unfold jmp; rw [G_209]; rfl
/-- FewEnds.follow()I -/
theorem E_209 (h : knd Sh a = 0) : evc X 209 [vR (some a)] Sh M = ev X 209 k_209_0 [some (vR (some a))] [] Sh M := by
  rw [evc_go (by rw [F_209.1]; show 1 ≤ 1; omega) (rcv_v F_209.2.1 F_209.2.2 h), mkls_of F_209.1, J_209_0]
  rfl
theorem F_210 : (mT 210).2.2.1 = 7 ∧ (mwd 210).1 = 0 ∧ mcl 210 = 9 := by decide +kernel
theorem G_210 : cdl.getD 210 [] = cd_210 := rfl
theorem J_210_0 : jmp 210 0 = k_210_0 := by unfold jmp; rw [G_210]; rfl
theorem J_210_9 : jmp 210 9 = k_210_9 := by unfold jmp; rw [G_210]; rfl
theorem J_210_40 : jmp 210 40 = k_210_40 := by unfold jmp; rw [G_210]; rfl
theorem J_210_41 : jmp 210 41 = k_210_41 := by unfold jmp; rw [G_210]; rfl
theorem J_210_42 : jmp 210 42 = k_210_42 := by unfold jmp; rw [G_210]; rfl
theorem J_210_65 : jmp 210 65 = k_210_65 := by unfold jmp; rw [G_210]; rfl
theorem J_210_77 : jmp 210 77 = k_210_77 := by unfold jmp; rw [G_210]; rfl
theorem J_210_105 : jmp 210 105 = k_210_105 := by unfold jmp; rw [G_210]; rfl
theorem J_210_108 : jmp 210 108 = k_210_108 := by unfold jmp; rw [G_210]; rfl
theorem J_210_114 : jmp 210 114 = k_210_114 := by unfold jmp; rw [G_210]; rfl
/-- FewEnds$Follower.run(LFewEnds$Chart;LFewEnds$Directions;)I -/
theorem E_210 {x1 : Option Nat} {x2 : Option Nat} (h : knd Sh a = 9) : evc X 210 [vR (some a), vR x1, vR x2] Sh M = ev X 210 k_210_0 [some (vR (some a)), some (vR x1), some (vR x2), none, none, none, none] [] Sh M := by
  rw [evc_go (by rw [F_210.1]; show 3 ≤ 7; omega) (rcv_v F_210.2.1 F_210.2.2 h), mkls_of F_210.1, J_210_0]
  rfl
theorem F_211 : (mT 211).2.2.1 = 1 ∧ (mwd 211).1 = 0 ∧ mcl 211 = 9 := by decide +kernel
theorem G_211 : cdl.getD 211 [] = cd_211 := rfl
theorem J_211_0 : jmp 211 0 = k_211_0 := by unfold jmp; rw [G_211]; rfl
/-- FewEnds$Follower.begin()V -/
theorem E_211 (h : knd Sh a = 9) : evc X 211 [vR (some a)] Sh M = ev X 211 k_211_0 [some (vR (some a))] [] Sh M := by
  rw [evc_go (by rw [F_211.1]; show 1 ≤ 1; omega) (rcv_v F_211.2.1 F_211.2.2 h), mkls_of F_211.1, J_211_0]
  rfl
theorem F_212 : (mT 212).2.2.1 = 3 ∧ (mwd 212).1 = 0 ∧ mcl 212 = 9 := by decide +kernel
theorem G_212 : cdl.getD 212 [] = cd_212 := rfl
theorem J_212_0 : jmp 212 0 = k_212_0 := by unfold jmp; rw [G_212]; rfl
theorem J_212_15 : jmp 212 15 = k_212_15 := by unfold jmp; rw [G_212]; rfl
theorem J_212_19 : jmp 212 19 = k_212_19 := by unfold jmp; rw [G_212]; rfl
theorem J_212_54 : jmp 212 54 = k_212_54 := by unfold jmp; rw [G_212]; rfl
/-- FewEnds$Follower.behindEnd(I)I -/
theorem E_212 {x1 : Int} (h : knd Sh a = 9) : evc X 212 [vR (some a), vI x1] Sh M = ev X 212 k_212_0 [some (vR (some a)), some (vI x1), none] [] Sh M := by
  rw [evc_go (by rw [F_212.1]; show 2 ≤ 3; omega) (rcv_v F_212.2.1 F_212.2.2 h), mkls_of F_212.1, J_212_0]
  rfl
theorem F_213 : (mT 213).2.2.1 = 5 ∧ (mwd 213).1 = 0 ∧ mcl 213 = 9 := by decide +kernel
theorem G_213 : cdl.getD 213 [] = cd_213 := rfl
theorem J_213_0 : jmp 213 0 = k_213_0 := by unfold jmp; rw [G_213]; rfl
theorem J_213_40 : jmp 213 40 = k_213_40 := by unfold jmp; rw [G_213]; rfl
theorem J_213_54 : jmp 213 54 = k_213_54 := by unfold jmp; rw [G_213]; rfl
theorem J_213_71 : jmp 213 71 = k_213_71 := by unfold jmp; rw [G_213]; rfl
theorem J_213_73 : jmp 213 73 = k_213_73 := by unfold jmp; rw [G_213]; rfl
/-- FewEnds$Follower.doStep(LFewEnds$Chart;LFewEnds$Directions;I)I -/
theorem E_213 {x1 : Option Nat} {x2 : Option Nat} {x3 : Int} (h : knd Sh a = 9) : evc X 213 [vR (some a), vR x1, vR x2, vI x3] Sh M = ev X 213 k_213_0 [some (vR (some a)), some (vR x1), some (vR x2), some (vI x3), none] [] Sh M := by
  rw [evc_go (by rw [F_213.1]; show 4 ≤ 5; omega) (rcv_v F_213.2.1 F_213.2.2 h), mkls_of F_213.1, J_213_0]
  rfl
theorem F_214 : (mT 214).2.2.1 = 6 ∧ (mwd 214).1 = 0 ∧ mcl 214 = 9 := by decide +kernel
theorem G_214 : cdl.getD 214 [] = cd_214 := rfl
theorem J_214_0 : jmp 214 0 = k_214_0 := by unfold jmp; rw [G_214]; rfl
theorem J_214_3 : jmp 214 3 = k_214_3 := by unfold jmp; rw [G_214]; rfl
theorem J_214_26 : jmp 214 26 = k_214_26 := by unfold jmp; rw [G_214]; rfl
theorem J_214_32 : jmp 214 32 = k_214_32 := by unfold jmp; rw [G_214]; rfl
/-- FewEnds$Follower.knitSome(LFewEnds$Chart;II)I -/
theorem E_214 {x1 : Option Nat} {x2 : Int} {x3 : Int} (h : knd Sh a = 9) : evc X 214 [vR (some a), vR x1, vI x2, vI x3] Sh M = ev X 214 k_214_0 [some (vR (some a)), some (vR x1), some (vI x2), some (vI x3), none, none] [] Sh M := by
  rw [evc_go (by rw [F_214.1]; show 4 ≤ 6; omega) (rcv_v F_214.2.1 F_214.2.2 h), mkls_of F_214.1, J_214_0]
  rfl
theorem F_215 : (mT 215).2.2.1 = 4 ∧ (mwd 215).1 = 0 ∧ mcl 215 = 9 := by decide +kernel
theorem G_215 : cdl.getD 215 [] = cd_215 := rfl
theorem J_215_0 : jmp 215 0 = k_215_0 := by unfold jmp; rw [G_215]; rfl
theorem J_215_13 : jmp 215 13 = k_215_13 := by unfold jmp; rw [G_215]; rfl
theorem J_215_34 : jmp 215 34 = k_215_34 := by unfold jmp; rw [G_215]; rfl
theorem J_215_36 : jmp 215 36 = k_215_36 := by unfold jmp; rw [G_215]; rfl
theorem J_215_78 : jmp 215 78 = k_215_78 := by unfold jmp; rw [G_215]; rfl
theorem J_215_92 : jmp 215 92 = k_215_92 := by unfold jmp; rw [G_215]; rfl
theorem J_215_122 : jmp 215 122 = k_215_122 := by unfold jmp; rw [G_215]; rfl
/-- FewEnds$Follower.knitOne(LFewEnds$Chart;I)I -/
theorem E_215 {x1 : Option Nat} {x2 : Int} (h : knd Sh a = 9) : evc X 215 [vR (some a), vR x1, vI x2] Sh M = ev X 215 k_215_0 [some (vR (some a)), some (vR x1), some (vI x2), none] [] Sh M := by
  rw [evc_go (by rw [F_215.1]; show 3 ≤ 4; omega) (rcv_v F_215.2.1 F_215.2.2 h), mkls_of F_215.1, J_215_0]
  rfl
theorem F_216 : (mT 216).2.2.1 = 3 ∧ (mwd 216).1 = 0 ∧ mcl 216 = 9 := by decide +kernel
theorem G_216 : cdl.getD 216 [] = cd_216 := rfl
theorem J_216_0 : jmp 216 0 = k_216_0 := by unfold jmp; rw [G_216]; rfl
theorem J_216_38 : jmp 216 38 = k_216_38 := by unfold jmp; rw [G_216]; rfl
/-- FewEnds$Follower.openLoop(II)V -/
theorem E_216 {x1 : Int} {x2 : Int} (h : knd Sh a = 9) : evc X 216 [vR (some a), vI x1, vI x2] Sh M = ev X 216 k_216_0 [some (vR (some a)), some (vI x1), some (vI x2)] [] Sh M := by
  rw [evc_go (by rw [F_216.1]; show 3 ≤ 3; omega) (rcv_v F_216.2.1 F_216.2.2 h), mkls_of F_216.1, J_216_0]
  rfl
theorem F_217 : (mT 217).2.2.1 = 2 ∧ (mwd 217).1 = 0 ∧ mcl 217 = 0 := by decide +kernel
theorem G_217 : cdl.getD 217 [] = cd_217 := rfl
theorem J_217_0 : jmp 217 0 = k_217_0 := by unfold jmp; rw [G_217]; rfl
theorem J_217_9 : jmp 217 9 = k_217_9 := by unfold jmp; rw [G_217]; rfl
theorem J_217_15 : jmp 217 15 = k_217_15 := by unfold jmp; rw [G_217]; rfl
theorem J_217_32 : jmp 217 32 = k_217_32 := by unfold jmp; rw [G_217]; rfl
theorem J_217_60 : jmp 217 60 = k_217_60 := by unfold jmp; rw [G_217]; rfl
theorem J_217_72 : jmp 217 72 = k_217_72 := by unfold jmp; rw [G_217]; rfl
theorem J_217_84 : jmp 217 84 = k_217_84 := by unfold jmp; rw [G_217]; rfl
theorem J_217_96 : jmp 217 96 = k_217_96 := by unfold jmp; rw [G_217]; rfl
/-- FewEnds.followed(I)I -/
theorem E_217 {x1 : Int} (h : knd Sh a = 0) : evc X 217 [vR (some a), vI x1] Sh M = ev X 217 k_217_0 [some (vR (some a)), some (vI x1)] [] Sh M := by
  rw [evc_go (by rw [F_217.1]; show 2 ≤ 2; omega) (rcv_v F_217.2.1 F_217.2.2 h), mkls_of F_217.1, J_217_0]
  rfl
theorem F_218 : (mT 218).2.2.1 = 1 ∧ (mwd 218).1 = 0 ∧ mcl 218 = 0 := by decide +kernel
theorem G_218 : cdl.getD 218 [] = cd_218 := rfl
theorem J_218_0 : jmp 218 0 = k_218_0 := by unfold jmp; rw [G_218]; rfl
theorem J_218_17 : jmp 218 17 = k_218_17 := by unfold jmp; rw [G_218]; rfl
/-- FewEnds.take()Z -/
theorem E_218 (h : knd Sh a = 0) : evc X 218 [vR (some a)] Sh M = ev X 218 k_218_0 [some (vR (some a))] [] Sh M := by
  rw [evc_go (by rw [F_218.1]; show 1 ≤ 1; omega) (rcv_v F_218.2.1 F_218.2.2 h), mkls_of F_218.1, J_218_0]
  rfl
theorem F_219 : (mT 219).2.2.1 = 2 ∧ (mwd 219).1 = 0 ∧ mcl 219 = 0 := by decide +kernel
theorem G_219 : cdl.getD 219 [] = cd_219 := rfl
theorem J_219_0 : jmp 219 0 = k_219_0 := by unfold jmp; rw [G_219]; rfl
theorem J_219_19 : jmp 219 19 = k_219_19 := by unfold jmp; rw [G_219]; rfl
/-- FewEnds.mark()I -/
theorem E_219 (h : knd Sh a = 0) : evc X 219 [vR (some a)] Sh M = ev X 219 k_219_0 [some (vR (some a)), none] [] Sh M := by
  rw [evc_go (by rw [F_219.1]; show 1 ≤ 2; omega) (rcv_v F_219.2.1 F_219.2.2 h), mkls_of F_219.1, J_219_0]
  rfl
theorem F_220 : (mT 220).2.2.1 = 2 ∧ (mwd 220).1 = 0 ∧ mcl 220 = 0 := by decide +kernel
theorem G_220 : cdl.getD 220 [] = cd_220 := rfl
theorem J_220_0 : jmp 220 0 = k_220_0 := by unfold jmp; rw [G_220]; rfl
theorem J_220_9 : jmp 220 9 = k_220_9 := by unfold jmp; rw [G_220]; rfl
theorem J_220_13 : jmp 220 13 = k_220_13 := by unfold jmp; rw [G_220]; rfl
theorem J_220_19 : jmp 220 19 = k_220_19 := by unfold jmp; rw [G_220]; rfl
/-- FewEnds.markAt(I)LFewEnds$Mark; -/
theorem E_220 {x1 : Int} (h : knd Sh a = 0) : evc X 220 [vR (some a), vI x1] Sh M = ev X 220 k_220_0 [some (vR (some a)), some (vI x1)] [] Sh M := by
  rw [evc_go (by rw [F_220.1]; show 2 ≤ 2; omega) (rcv_v F_220.2.1 F_220.2.2 h), mkls_of F_220.1, J_220_0]
  rfl
theorem F_221 : (mT 221).2.2.1 = 2 ∧ (mwd 221).1 = 0 ∧ mcl 221 = 0 := by decide +kernel
theorem G_221 : cdl.getD 221 [] = cd_221 := rfl
theorem J_221_0 : jmp 221 0 = k_221_0 := by unfold jmp; rw [G_221]; rfl
theorem J_221_22 : jmp 221 22 = k_221_22 := by unfold jmp; rw [G_221]; rfl
/-- FewEnds.back()I -/
theorem E_221 (h : knd Sh a = 0) : evc X 221 [vR (some a)] Sh M = ev X 221 k_221_0 [some (vR (some a)), none] [] Sh M := by
  rw [evc_go (by rw [F_221.1]; show 1 ≤ 2; omega) (rcv_v F_221.2.1 F_221.2.2 h), mkls_of F_221.1, J_221_0]
  rfl
theorem F_222 : (mT 222).2.2.1 = 1 ∧ (mwd 222).1 = 2 ∧ mcl 222 = 12 := by decide +kernel
theorem G_222 : cdl.getD 222 [] = cd_222 := rfl
theorem J_222_0 : jmp 222 0 = k_222_0 := by unfold jmp; rw [G_222]; rfl
/-- FewEndsModel.<init>()V -/
theorem E_222 : evc X 222 [vR (some a)] Sh M = ev X 222 k_222_0 [some (vR (some a))] [] Sh M := by
  rw [evc_go (by rw [F_222.1]; show 1 ≤ 1; omega) (rcv_i F_222.2.1), mkls_of F_222.1, J_222_0]
  rfl
theorem F_223 : (mT 223).2.2.1 = 3 ∧ (mwd 223).1 = 0 ∧ mcl 223 = 12 := by decide +kernel
theorem G_223 : cdl.getD 223 [] = cd_223 := rfl
theorem J_223_0 : jmp 223 0 = k_223_0 := by unfold jmp; rw [G_223]; rfl
theorem J_223_2 : jmp 223 2 = k_223_2 := by unfold jmp; rw [G_223]; rfl
theorem J_223_24 : jmp 223 24 = k_223_24 := by unfold jmp; rw [G_223]; rfl
theorem J_223_116 : jmp 223 116 = k_223_116 := by unfold jmp; rw [G_223]; rfl
theorem J_223_140 : jmp 223 140 = k_223_140 := by unfold jmp; rw [G_223]; rfl
/-- FewEndsModel.asNew(I)V -/
theorem E_223 {x1 : Int} (h : knd Sh a = 12) : evc X 223 [vR (some a), vI x1] Sh M = ev X 223 k_223_0 [some (vR (some a)), some (vI x1), none] [] Sh M := by
  rw [evc_go (by rw [F_223.1]; show 2 ≤ 3; omega) (rcv_v F_223.2.1 F_223.2.2 h), mkls_of F_223.1, J_223_0]
  rfl
theorem F_224 : (mT 224).2.2.1 = 5 ∧ (mwd 224).1 = 0 ∧ mcl 224 = 12 := by decide +kernel
theorem G_224 : cdl.getD 224 [] = cd_224 := rfl
theorem J_224_0 : jmp 224 0 = k_224_0 := by unfold jmp; rw [G_224]; rfl
theorem J_224_2 : jmp 224 2 = k_224_2 := by unfold jmp; rw [G_224]; rfl
theorem J_224_49 : jmp 224 49 = k_224_49 := by unfold jmp; rw [G_224]; rfl
theorem J_224_50 : jmp 224 50 = k_224_50 := by unfold jmp; rw [G_224]; rfl
theorem J_224_83 : jmp 224 83 = k_224_83 := by unfold jmp; rw [G_224]; rfl
theorem J_224_84 : jmp 224 84 = k_224_84 := by unfold jmp; rw [G_224]; rfl
theorem J_224_112 : jmp 224 112 = k_224_112 := by unfold jmp; rw [G_224]; rfl
/-- FewEndsModel.numbers()V -/
theorem E_224 (h : knd Sh a = 12) : evc X 224 [vR (some a)] Sh M = ev X 224 k_224_0 [some (vR (some a)), none, none, none, none] [] Sh M := by
  rw [evc_go (by rw [F_224.1]; show 1 ≤ 5; omega) (rcv_v F_224.2.1 F_224.2.2 h), mkls_of F_224.1, J_224_0]
  rfl
theorem F_225 : (mT 225).2.2.1 = 1 ∧ (mwd 225).1 = 0 ∧ mcl 225 = 12 := by decide +kernel
theorem G_225 : cdl.getD 225 [] = cd_225 := rfl
theorem J_225_0 : jmp 225 0 = k_225_0 := by unfold jmp; rw [G_225]; rfl
/-- FewEndsModel.many()I -/
theorem E_225 (h : knd Sh a = 12) : evc X 225 [vR (some a)] Sh M = ev X 225 k_225_0 [some (vR (some a))] [] Sh M := by
  rw [evc_go (by rw [F_225.1]; show 1 ≤ 1; omega) (rcv_v F_225.2.1 F_225.2.2 h), mkls_of F_225.1, J_225_0]
  rfl
theorem F_226 : (mT 226).2.2.1 = 1 ∧ (mwd 226).1 = 0 ∧ mcl 226 = 12 := by decide +kernel
theorem G_226 : cdl.getD 226 [] = cd_226 := rfl
theorem J_226_0 : jmp 226 0 = k_226_0 := by unfold jmp; rw [G_226]; rfl
/-- FewEndsModel.status()I -/
theorem E_226 (h : knd Sh a = 12) : evc X 226 [vR (some a)] Sh M = ev X 226 k_226_0 [some (vR (some a))] [] Sh M := by
  rw [evc_go (by rw [F_226.1]; show 1 ≤ 1; omega) (rcv_v F_226.2.1 F_226.2.2 h), mkls_of F_226.1, J_226_0]
  rfl
theorem F_227 : (mT 227).2.2.1 = 1 ∧ (mwd 227).1 = 0 ∧ mcl 227 = 12 := by decide +kernel
theorem G_227 : cdl.getD 227 [] = cd_227 := rfl
theorem J_227_0 : jmp 227 0 = k_227_0 := by unfold jmp; rw [G_227]; rfl
/-- FewEndsModel.top()J -/
theorem E_227 (h : knd Sh a = 12) : evc X 227 [vR (some a)] Sh M = ev X 227 k_227_0 [some (vR (some a))] [] Sh M := by
  rw [evc_go (by rw [F_227.1]; show 1 ≤ 1; omega) (rcv_v F_227.2.1 F_227.2.2 h), mkls_of F_227.1, J_227_0]
  rfl
theorem F_228 : (mT 228).2.2.1 = 1 ∧ (mwd 228).1 = 0 ∧ mcl 228 = 12 := by decide +kernel
theorem G_228 : cdl.getD 228 [] = cd_228 := rfl
theorem J_228_0 : jmp 228 0 = k_228_0 := by unfold jmp; rw [G_228]; rfl
/-- FewEndsModel.bottom()J -/
theorem E_228 (h : knd Sh a = 12) : evc X 228 [vR (some a)] Sh M = ev X 228 k_228_0 [some (vR (some a))] [] Sh M := by
  rw [evc_go (by rw [F_228.1]; show 1 ≤ 1; omega) (rcv_v F_228.2.1 F_228.2.2 h), mkls_of F_228.1, J_228_0]
  rfl
theorem F_229 : (mT 229).2.2.1 = 5 ∧ (mwd 229).1 = 0 ∧ mcl 229 = 12 := by decide +kernel
theorem G_229 : cdl.getD 229 [] = cd_229 := rfl
theorem J_229_0 : jmp 229 0 = k_229_0 := by unfold jmp; rw [G_229]; rfl
theorem J_229_26 : jmp 229 26 = k_229_26 := by unfold jmp; rw [G_229]; rfl
theorem J_229_32 : jmp 229 32 = k_229_32 := by unfold jmp; rw [G_229]; rfl
theorem J_229_49 : jmp 229 49 = k_229_49 := by unfold jmp; rw [G_229]; rfl
theorem J_229_74 : jmp 229 74 = k_229_74 := by unfold jmp; rw [G_229]; rfl
/-- FewEndsModel.tray(III)Z -/
theorem E_229 {x1 : Int} {x2 : Int} {x3 : Int} (h : knd Sh a = 12) : evc X 229 [vR (some a), vI x1, vI x2, vI x3] Sh M = ev X 229 k_229_0 [some (vR (some a)), some (vI x1), some (vI x2), some (vI x3), none] [] Sh M := by
  rw [evc_go (by rw [F_229.1]; show 4 ≤ 5; omega) (rcv_v F_229.2.1 F_229.2.2 h), mkls_of F_229.1, J_229_0]
  rfl
theorem F_230 : (mT 230).2.2.1 = 1 ∧ (mwd 230).1 = 1 ∧ mcl 230 = 12 := by decide +kernel
theorem G_230 : cdl.getD 230 [] = cd_230 := rfl
theorem J_230_0 : jmp 230 0 = k_230_0 := by unfold jmp; rw [G_230]; rfl
theorem J_230_13 : jmp 230 13 = k_230_13 := by unfold jmp; rw [G_230]; rfl
theorem J_230_14 : jmp 230 14 = k_230_14 := by unfold jmp; rw [G_230]; rfl
/-- FewEndsModel.isTray(I)Z -/
theorem E_230 {x1 : Int} : evc X 230 [vI x1] Sh M = ev X 230 k_230_0 [some (vI x1)] [] Sh M := by
  rw [evc_go (by rw [F_230.1]; show 1 ≤ 1; omega) (rcv_s F_230.2.1), mkls_of F_230.1, J_230_0]
  rfl
theorem F_231 : (mT 231).2.2.1 = 2 ∧ (mwd 231).1 = 0 ∧ mcl 231 = 12 := by decide +kernel
theorem G_231 : cdl.getD 231 [] = cd_231 := rfl
theorem J_231_0 : jmp 231 0 = k_231_0 := by unfold jmp; rw [G_231]; rfl
theorem J_231_13 : jmp 231 13 = k_231_13 := by unfold jmp; rw [G_231]; rfl
theorem J_231_14 : jmp 231 14 = k_231_14 := by unfold jmp; rw [G_231]; rfl
/-- FewEndsModel.is(I)Z -/
theorem E_231 {x1 : Int} (h : knd Sh a = 12) : evc X 231 [vR (some a), vI x1] Sh M = ev X 231 k_231_0 [some (vR (some a)), some (vI x1)] [] Sh M := by
  rw [evc_go (by rw [F_231.1]; show 2 ≤ 2; omega) (rcv_v F_231.2.1 F_231.2.2 h), mkls_of F_231.1, J_231_0]
  rfl
theorem F_232 : (mT 232).2.2.1 = 6 ∧ (mwd 232).1 = 0 ∧ mcl 232 = 12 := by decide +kernel
theorem G_232 : cdl.getD 232 [] = cd_232 := rfl
theorem J_232_0 : jmp 232 0 = k_232_0 := by unfold jmp; rw [G_232]; rfl
theorem J_232_34 : jmp 232 34 = k_232_34 := by unfold jmp; rw [G_232]; rfl
/-- FewEndsModel.write(IIJ)Z -/
theorem E_232 {x1 : Int} {x2 : Int} {x3 : Int} (h : knd Sh a = 12) : evc X 232 [vR (some a), vI x1, vI x2, vL x3] Sh M = ev X 232 k_232_0 [some (vR (some a)), some (vI x1), some (vI x2), some (vL x3), none, none] [] Sh M := by
  rw [evc_go (by rw [F_232.1]; show 5 ≤ 6; omega) (rcv_v F_232.2.1 F_232.2.2 h), mkls_of F_232.1, J_232_0]
  rfl
theorem F_233 : (mT 233).2.2.1 = 3 ∧ (mwd 233).1 = 0 ∧ mcl 233 = 12 := by decide +kernel
theorem G_233 : cdl.getD 233 [] = cd_233 := rfl
theorem J_233_0 : jmp 233 0 = k_233_0 := by unfold jmp; rw [G_233]; rfl
theorem J_233_11 : jmp 233 11 = k_233_11 := by unfold jmp; rw [G_233]; rfl
theorem J_233_25 : jmp 233 25 = k_233_25 := by unfold jmp; rw [G_233]; rfl
theorem J_233_39 : jmp 233 39 = k_233_39 := by unfold jmp; rw [G_233]; rfl
theorem J_233_43 : jmp 233 43 = k_233_43 := by unfold jmp; rw [G_233]; rfl
theorem J_233_44 : jmp 233 44 = k_233_44 := by unfold jmp; rw [G_233]; rfl
/-- FewEndsModel.wrongPlace(II)I -/
theorem E_233 {x1 : Int} {x2 : Int} (h : knd Sh a = 12) : evc X 233 [vR (some a), vI x1, vI x2] Sh M = ev X 233 k_233_0 [some (vR (some a)), some (vI x1), some (vI x2)] [] Sh M := by
  rw [evc_go (by rw [F_233.1]; show 3 ≤ 3; omega) (rcv_v F_233.2.1 F_233.2.2 h), mkls_of F_233.1, J_233_0]
  rfl
theorem F_234 : (mT 234).2.2.1 = 3 ∧ (mwd 234).1 = 1 ∧ mcl 234 = 12 := by decide +kernel
theorem G_234 : cdl.getD 234 [] = cd_234 := rfl
theorem J_234_0 : jmp 234 0 = k_234_0 := by unfold jmp; rw [G_234]; rfl
theorem J_234_11 : jmp 234 11 = k_234_11 := by unfold jmp; rw [G_234]; rfl
theorem J_234_23 : jmp 234 23 = k_234_23 := by unfold jmp; rw [G_234]; rfl
theorem J_234_34 : jmp 234 34 = k_234_34 := by unfold jmp; rw [G_234]; rfl
theorem J_234_35 : jmp 234 35 = k_234_35 := by unfold jmp; rw [G_234]; rfl
/-- FewEndsModel.cut(JI)J -/
theorem E_234 {x1 : Int} {x2 : Int} : evc X 234 [vL x1, vI x2] Sh M = ev X 234 k_234_0 [some (vL x1), none, some (vI x2)] [] Sh M := by
  rw [evc_go (by rw [F_234.1]; show 3 ≤ 3; omega) (rcv_s F_234.2.1), mkls_of F_234.1, J_234_0]
  rfl
theorem F_235 : (mT 235).2.2.1 = 3 ∧ (mwd 235).1 = 0 ∧ mcl 235 = 12 := by decide +kernel
theorem G_235 : cdl.getD 235 [] = cd_235 := rfl
theorem J_235_0 : jmp 235 0 = k_235_0 := by unfold jmp; rw [G_235]; rfl
theorem J_235_23 : jmp 235 23 = k_235_23 := by unfold jmp; rw [G_235]; rfl
theorem J_235_34 : jmp 235 34 = k_235_34 := by unfold jmp; rw [G_235]; rfl
/-- FewEndsModel.read(II)J -/
theorem E_235 {x1 : Int} {x2 : Int} (h : knd Sh a = 12) : evc X 235 [vR (some a), vI x1, vI x2] Sh M = ev X 235 k_235_0 [some (vR (some a)), some (vI x1), some (vI x2)] [] Sh M := by
  rw [evc_go (by rw [F_235.1]; show 3 ≤ 3; omega) (rcv_v F_235.2.1 F_235.2.2 h), mkls_of F_235.1, J_235_0]
  rfl
theorem F_236 : (mT 236).2.2.1 = 8 ∧ (mwd 236).1 = 0 ∧ mcl 236 = 12 := by decide +kernel
theorem G_236 : cdl.getD 236 [] = cd_236 := rfl
theorem J_236_0 : jmp 236 0 = k_236_0 := by unfold jmp; rw [G_236]; rfl
theorem J_236_28 : jmp 236 28 = k_236_28 := by unfold jmp; rw [G_236]; rfl
theorem J_236_34 : jmp 236 34 = k_236_34 := by unfold jmp; rw [G_236]; rfl
theorem J_236_54 : jmp 236 54 = k_236_54 := by unfold jmp; rw [G_236]; rfl
theorem J_236_60 : jmp 236 60 = k_236_60 := by unfold jmp; rw [G_236]; rfl
theorem J_236_82 : jmp 236 82 = k_236_82 := by unfold jmp; rw [G_236]; rfl
theorem J_236_109 : jmp 236 109 = k_236_109 := by unfold jmp; rw [G_236]; rfl
theorem J_236_115 : jmp 236 115 = k_236_115 := by unfold jmp; rw [G_236]; rfl
theorem J_236_118 : jmp 236 118 = k_236_118 := by unfold jmp; rw [G_236]; rfl
theorem J_236_141 : jmp 236 141 = k_236_141 := by unfold jmp; rw [G_236]; rfl
theorem J_236_143 : jmp 236 143 = k_236_143 := by unfold jmp; rw [G_236]; rfl
theorem J_236_180 : jmp 236 180 = k_236_180 := by unfold jmp; rw [G_236]; rfl
/-- FewEndsModel.pour(IIIII)Z -/
theorem E_236 {x1 : Int} {x2 : Int} {x3 : Int} {x4 : Int} {x5 : Int} (h : knd Sh a = 12) : evc X 236 [vR (some a), vI x1, vI x2, vI x3, vI x4, vI x5] Sh M = ev X 236 k_236_0 [some (vR (some a)), some (vI x1), some (vI x2), some (vI x3), some (vI x4), some (vI x5), none, none] [] Sh M := by
  rw [evc_go (by rw [F_236.1]; show 6 ≤ 8; omega) (rcv_v F_236.2.1 F_236.2.2 h), mkls_of F_236.1, J_236_0]
  rfl
theorem F_237 : (mT 237).2.2.1 = 6 ∧ (mwd 237).1 = 0 ∧ mcl 237 = 12 := by decide +kernel
theorem G_237 : cdl.getD 237 [] = cd_237 := rfl
theorem J_237_0 : jmp 237 0 = k_237_0 := by unfold jmp; rw [G_237]; rfl
theorem J_237_15 : jmp 237 15 = k_237_15 := by unfold jmp; rw [G_237]; rfl
/-- FewEndsModel.feed(IIIII)I -/
theorem E_237 {x1 : Int} {x2 : Int} {x3 : Int} {x4 : Int} {x5 : Int} (h : knd Sh a = 12) : evc X 237 [vR (some a), vI x1, vI x2, vI x3, vI x4, vI x5] Sh M = ev X 237 k_237_0 [some (vR (some a)), some (vI x1), some (vI x2), some (vI x3), some (vI x4), some (vI x5)] [] Sh M := by
  rw [evc_go (by rw [F_237.1]; show 6 ≤ 6; omega) (rcv_v F_237.2.1 F_237.2.2 h), mkls_of F_237.1, J_237_0]
  rfl
theorem F_238 : (mT 238).2.2.1 = 3 ∧ (mwd 238).1 = 0 ∧ mcl 238 = 12 := by decide +kernel
theorem G_238 : cdl.getD 238 [] = cd_238 := rfl
theorem J_238_0 : jmp 238 0 = k_238_0 := by unfold jmp; rw [G_238]; rfl
theorem J_238_3 : jmp 238 3 = k_238_3 := by unfold jmp; rw [G_238]; rfl
theorem J_238_36 : jmp 238 36 = k_238_36 := by unfold jmp; rw [G_238]; rfl
/-- FewEndsModel.four(I)V -/
theorem E_238 {x1 : Int} (h : knd Sh a = 12) : evc X 238 [vR (some a), vI x1] Sh M = ev X 238 k_238_0 [some (vR (some a)), some (vI x1), none] [] Sh M := by
  rw [evc_go (by rw [F_238.1]; show 2 ≤ 3; omega) (rcv_v F_238.2.1 F_238.2.2 h), mkls_of F_238.1, J_238_0]
  rfl
theorem F_239 : (mT 239).2.2.1 = 2 ∧ (mwd 239).1 = 0 ∧ mcl 239 = 12 := by decide +kernel
theorem G_239 : cdl.getD 239 [] = cd_239 := rfl
theorem J_239_0 : jmp 239 0 = k_239_0 := by unfold jmp; rw [G_239]; rfl
theorem J_239_11 : jmp 239 11 = k_239_11 := by unfold jmp; rw [G_239]; rfl
theorem J_239_23 : jmp 239 23 = k_239_23 := by unfold jmp; rw [G_239]; rfl
theorem J_239_24 : jmp 239 24 = k_239_24 := by unfold jmp; rw [G_239]; rfl
/-- FewEndsModel.fault(I)I -/
theorem E_239 {x1 : Int} (h : knd Sh a = 12) : evc X 239 [vR (some a), vI x1] Sh M = ev X 239 k_239_0 [some (vR (some a)), some (vI x1)] [] Sh M := by
  rw [evc_go (by rw [F_239.1]; show 2 ≤ 2; omega) (rcv_v F_239.2.1 F_239.2.2 h), mkls_of F_239.1, J_239_0]
  rfl
theorem F_240 : (mT 240).2.2.1 = 4 ∧ (mwd 240).1 = 0 ∧ mcl 240 = 12 := by decide +kernel
theorem G_240 : cdl.getD 240 [] = cd_240 := rfl
theorem J_240_0 : jmp 240 0 = k_240_0 := by unfold jmp; rw [G_240]; rfl
theorem J_240_17 : jmp 240 17 = k_240_17 := by unfold jmp; rw [G_240]; rfl
theorem J_240_78 : jmp 240 78 = k_240_78 := by unfold jmp; rw [G_240]; rfl
theorem J_240_79 : jmp 240 79 = k_240_79 := by unfold jmp; rw [G_240]; rfl
theorem J_240_80 : jmp 240 80 = k_240_80 := by unfold jmp; rw [G_240]; rfl
theorem J_240_99 : jmp 240 99 = k_240_99 := by unfold jmp; rw [G_240]; rfl
theorem J_240_125 : jmp 240 125 = k_240_125 := by unfold jmp; rw [G_240]; rfl
theorem J_240_134 : jmp 240 134 = k_240_134 := by unfold jmp; rw [G_240]; rfl
theorem J_240_163 : jmp 240 163 = k_240_163 := by unfold jmp; rw [G_240]; rfl
theorem J_240_165 : jmp 240 165 = k_240_165 := by unfold jmp; rw [G_240]; rfl
theorem J_240_191 : jmp 240 191 = k_240_191 := by unfold jmp; rw [G_240]; rfl
theorem J_240_200 : jmp 240 200 = k_240_200 := by unfold jmp; rw [G_240]; rfl
/-- FewEndsModel.chart(I)I -/
theorem E_240 {x1 : Int} (h : knd Sh a = 12) : evc X 240 [vR (some a), vI x1] Sh M = ev X 240 k_240_0 [some (vR (some a)), some (vI x1), none, none] [] Sh M := by
  rw [evc_go (by rw [F_240.1]; show 2 ≤ 4; omega) (rcv_v F_240.2.1 F_240.2.2 h), mkls_of F_240.1, J_240_0]
  rfl
theorem F_241 : (mT 241).2.2.1 = 4 ∧ (mwd 241).1 = 0 ∧ mcl 241 = 12 := by decide +kernel
theorem G_241 : cdl.getD 241 [] = cd_241 := rfl
theorem J_241_0 : jmp 241 0 = k_241_0 := by unfold jmp; rw [G_241]; rfl
theorem J_241_17 : jmp 241 17 = k_241_17 := by unfold jmp; rw [G_241]; rfl
theorem J_241_19 : jmp 241 19 = k_241_19 := by unfold jmp; rw [G_241]; rfl
theorem J_241_26 : jmp 241 26 = k_241_26 := by unfold jmp; rw [G_241]; rfl
theorem J_241_49 : jmp 241 49 = k_241_49 := by unfold jmp; rw [G_241]; rfl
/-- FewEndsModel.begins(II)Z -/
theorem E_241 {x1 : Int} {x2 : Int} (h : knd Sh a = 12) : evc X 241 [vR (some a), vI x1, vI x2] Sh M = ev X 241 k_241_0 [some (vR (some a)), some (vI x1), some (vI x2), none] [] Sh M := by
  rw [evc_go (by rw [F_241.1]; show 3 ≤ 4; omega) (rcv_v F_241.2.1 F_241.2.2 h), mkls_of F_241.1, J_241_0]
  rfl
theorem F_242 : (mT 242).2.2.1 = 2 ∧ (mwd 242).1 = 0 ∧ mcl 242 = 12 := by decide +kernel
theorem G_242 : cdl.getD 242 [] = cd_242 := rfl
theorem J_242_0 : jmp 242 0 = k_242_0 := by unfold jmp; rw [G_242]; rfl
theorem J_242_26 : jmp 242 26 = k_242_26 := by unfold jmp; rw [G_242]; rfl
theorem J_242_39 : jmp 242 39 = k_242_39 := by unfold jmp; rw [G_242]; rfl
theorem J_242_74 : jmp 242 74 = k_242_74 := by unfold jmp; rw [G_242]; rfl
theorem J_242_81 : jmp 242 81 = k_242_81 := by unfold jmp; rw [G_242]; rfl
theorem J_242_108 : jmp 242 108 = k_242_108 := by unfold jmp; rw [G_242]; rfl
theorem J_242_116 : jmp 242 116 = k_242_116 := by unfold jmp; rw [G_242]; rfl
theorem J_242_128 : jmp 242 128 = k_242_128 := by unfold jmp; rw [G_242]; rfl
theorem J_242_183 : jmp 242 183 = k_242_183 := by unfold jmp; rw [G_242]; rfl
theorem J_242_201 : jmp 242 201 = k_242_201 := by unfold jmp; rw [G_242]; rfl
theorem J_242_202 : jmp 242 202 = k_242_202 := by unfold jmp; rw [G_242]; rfl
theorem J_242_208 : jmp 242 208 = k_242_208 := by unfold jmp; rw [G_242]; rfl
theorem J_242_229 : jmp 242 229 = k_242_229 := by unfold jmp; rw [G_242]; rfl
theorem J_242_230 : jmp 242 230 = k_242_230 := by unfold jmp; rw [G_242]; rfl
theorem J_242_233 : jmp 242 233 = k_242_233 := by unfold jmp; rw [G_242]; rfl
/-- FewEndsModel.ahead()V -/
theorem E_242 (h : knd Sh a = 12) : evc X 242 [vR (some a)] Sh M = ev X 242 k_242_0 [some (vR (some a)), none] [] Sh M := by
  rw [evc_go (by rw [F_242.1]; show 1 ≤ 2; omega) (rcv_v F_242.2.1 F_242.2.2 h), mkls_of F_242.1, J_242_0]
  rfl
theorem F_243 : (mT 243).2.2.1 = 2 ∧ (mwd 243).1 = 0 ∧ mcl 243 = 12 := by decide +kernel
theorem G_243 : cdl.getD 243 [] = cd_243 := rfl
theorem J_243_0 : jmp 243 0 = k_243_0 := by unfold jmp; rw [G_243]; rfl
theorem J_243_21 : jmp 243 21 = k_243_21 := by unfold jmp; rw [G_243]; rfl
theorem J_243_22 : jmp 243 22 = k_243_22 := by unfold jmp; rw [G_243]; rfl
/-- FewEndsModel.byteAt(I)I -/
theorem E_243 {x1 : Int} (h : knd Sh a = 12) : evc X 243 [vR (some a), vI x1] Sh M = ev X 243 k_243_0 [some (vR (some a)), some (vI x1)] [] Sh M := by
  rw [evc_go (by rw [F_243.1]; show 2 ≤ 2; omega) (rcv_v F_243.2.1 F_243.2.2 h), mkls_of F_243.1, J_243_0]
  rfl
theorem F_244 : (mT 244).2.2.1 = 1 ∧ (mwd 244).1 = 1 ∧ mcl 244 = 12 := by decide +kernel
theorem G_244 : cdl.getD 244 [] = cd_244 := rfl
theorem J_244_0 : jmp 244 0 = k_244_0 := by unfold jmp; rw [G_244]; rfl
theorem J_244_16 : jmp 244 16 = k_244_16 := by unfold jmp; rw [G_244]; rfl
theorem J_244_17 : jmp 244 17 = k_244_17 := by unfold jmp; rw [G_244]; rfl
/-- FewEndsModel.isSmall(I)Z -/
theorem E_244 {x1 : Int} : evc X 244 [vI x1] Sh M = ev X 244 k_244_0 [some (vI x1)] [] Sh M := by
  rw [evc_go (by rw [F_244.1]; show 1 ≤ 1; omega) (rcv_s F_244.2.1), mkls_of F_244.1, J_244_0]
  rfl
theorem F_245 : (mT 245).2.2.1 = 1 ∧ (mwd 245).1 = 1 ∧ mcl 245 = 12 := by decide +kernel
theorem G_245 : cdl.getD 245 [] = cd_245 := rfl
theorem J_245_0 : jmp 245 0 = k_245_0 := by unfold jmp; rw [G_245]; rfl
theorem J_245_16 : jmp 245 16 = k_245_16 := by unfold jmp; rw [G_245]; rfl
theorem J_245_17 : jmp 245 17 = k_245_17 := by unfold jmp; rw [G_245]; rfl
/-- FewEndsModel.isDigit(I)Z -/
theorem E_245 {x1 : Int} : evc X 245 [vI x1] Sh M = ev X 245 k_245_0 [some (vI x1)] [] Sh M := by
  rw [evc_go (by rw [F_245.1]; show 1 ≤ 1; omega) (rcv_s F_245.2.1), mkls_of F_245.1, J_245_0]
  rfl
theorem F_246 : (mT 246).2.2.1 = 2 ∧ (mwd 246).1 = 0 ∧ mcl 246 = 12 := by decide +kernel
theorem G_246 : cdl.getD 246 [] = cd_246 := rfl
theorem J_246_0 : jmp 246 0 = k_246_0 := by unfold jmp; rw [G_246]; rfl
/-- FewEndsModel.refuse(I)I -/
theorem E_246 {x1 : Int} (h : knd Sh a = 12) : evc X 246 [vR (some a), vI x1] Sh M = ev X 246 k_246_0 [some (vR (some a)), some (vI x1)] [] Sh M := by
  rw [evc_go (by rw [F_246.1]; show 2 ≤ 2; omega) (rcv_v F_246.2.1 F_246.2.2 h), mkls_of F_246.1, J_246_0]
  rfl
theorem F_247 : (mT 247).2.2.1 = 3 ∧ (mwd 247).1 = 0 ∧ mcl 247 = 12 := by decide +kernel
theorem G_247 : cdl.getD 247 [] = cd_247 := rfl
theorem J_247_0 : jmp 247 0 = k_247_0 := by unfold jmp; rw [G_247]; rfl
theorem J_247_15 : jmp 247 15 = k_247_15 := by unfold jmp; rw [G_247]; rfl
/-- FewEndsModel.wantWord(Ljava/lang/String;I)Z -/
theorem E_247 {x1 : Nat} {x2 : Int} (h : knd Sh a = 12) (hx1 : x1 < 21) : evc X 247 [vR (some a), vS x1, vI x2] Sh M = ev X 247 k_247_0 [some (vR (some a)), some (vS x1), some (vI x2)] [] Sh M := by
  rw [evc_go (by rw [F_247.1]; show 3 ≤ 3; omega) (rcv_v F_247.2.1 F_247.2.2 h), mkls_of F_247.1, J_247_0]
  show ev X 247 k_247_0 [some (vR (some a)), (if x1 < 21 then some (vS x1) else none), some (vI x2)] [] Sh M = _
  rw [if_pos hx1]
theorem F_248 : (mT 248).2.2.1 = 7 ∧ (mwd 248).1 = 0 ∧ mcl 248 = 12 := by decide +kernel
theorem G_248 : cdl.getD 248 [] = cd_248 := rfl
theorem J_248_0 : jmp 248 0 = k_248_0 := by unfold jmp; rw [G_248]; rfl
theorem J_248_10 : jmp 248 10 = k_248_10 := by unfold jmp; rw [G_248]; rfl
theorem J_248_14 : jmp 248 14 = k_248_14 := by unfold jmp; rw [G_248]; rfl
theorem J_248_25 : jmp 248 25 = k_248_25 := by unfold jmp; rw [G_248]; rfl
theorem J_248_42 : jmp 248 42 = k_248_42 := by unfold jmp; rw [G_248]; rfl
theorem J_248_62 : jmp 248 62 = k_248_62 := by unfold jmp; rw [G_248]; rfl
theorem J_248_63 : jmp 248 63 = k_248_63 := by unfold jmp; rw [G_248]; rfl
theorem J_248_68 : jmp 248 68 = k_248_68 := by unfold jmp; rw [G_248]; rfl
theorem J_248_106 : jmp 248 106 = k_248_106 := by unfold jmp; rw [G_248]; rfl
theorem J_248_107 : jmp 248 107 = k_248_107 := by unfold jmp; rw [G_248]; rfl
theorem J_248_115 : jmp 248 115 = k_248_115 := by unfold jmp; rw [G_248]; rfl
theorem J_248_122 : jmp 248 122 = k_248_122 := by unfold jmp; rw [G_248]; rfl
theorem J_248_133 : jmp 248 133 = k_248_133 := by unfold jmp; rw [G_248]; rfl
/-- FewEndsModel.inWords(Ljava/lang/String;)I -/
theorem E_248 {x1 : Nat} (h : knd Sh a = 12) (hx1 : x1 < 21) : evc X 248 [vR (some a), vS x1] Sh M = ev X 248 k_248_0 [some (vR (some a)), some (vS x1), none, none, none, none, none] [] Sh M := by
  rw [evc_go (by rw [F_248.1]; show 2 ≤ 7; omega) (rcv_v F_248.2.1 F_248.2.2 h), mkls_of F_248.1, J_248_0]
  show ev X 248 k_248_0 [some (vR (some a)), (if x1 < 21 then some (vS x1) else none), none, none, none, none, none] [] Sh M = _
  rw [if_pos hx1]
theorem F_249 : (mT 249).2.2.1 = 2 ∧ (mwd 249).1 = 0 ∧ mcl 249 = 12 := by decide +kernel
theorem G_249 : cdl.getD 249 [] = cd_249 := rfl
theorem J_249_0 : jmp 249 0 = k_249_0 := by unfold jmp; rw [G_249]; rfl
theorem J_249_20 : jmp 249 20 = k_249_20 := by unfold jmp; rw [G_249]; rfl
theorem J_249_21 : jmp 249 21 = k_249_21 := by unfold jmp; rw [G_249]; rfl
theorem J_249_32 : jmp 249 32 = k_249_32 := by unfold jmp; rw [G_249]; rfl
/-- FewEndsModel.fails(I)Z -/
theorem E_249 {x1 : Int} (h : knd Sh a = 12) : evc X 249 [vR (some a), vI x1] Sh M = ev X 249 k_249_0 [some (vR (some a)), some (vI x1)] [] Sh M := by
  rw [evc_go (by rw [F_249.1]; show 2 ≤ 2; omega) (rcv_v F_249.2.1 F_249.2.2 h), mkls_of F_249.1, J_249_0]
  rfl
theorem F_250 : (mT 250).2.2.1 = 4 ∧ (mwd 250).1 = 0 ∧ mcl 250 = 12 := by decide +kernel
theorem G_250 : cdl.getD 250 [] = cd_250 := rfl
theorem J_250_0 : jmp 250 0 = k_250_0 := by unfold jmp; rw [G_250]; rfl
theorem J_250_14 : jmp 250 14 = k_250_14 := by unfold jmp; rw [G_250]; rfl
theorem J_250_30 : jmp 250 30 = k_250_30 := by unfold jmp; rw [G_250]; rfl
theorem J_250_36 : jmp 250 36 = k_250_36 := by unfold jmp; rw [G_250]; rfl
/-- FewEndsModel.number(III)Z -/
theorem E_250 {x1 : Int} {x2 : Int} {x3 : Int} (h : knd Sh a = 12) : evc X 250 [vR (some a), vI x1, vI x2, vI x3] Sh M = ev X 250 k_250_0 [some (vR (some a)), some (vI x1), some (vI x2), some (vI x3)] [] Sh M := by
  rw [evc_go (by rw [F_250.1]; show 4 ≤ 4; omega) (rcv_v F_250.2.1 F_250.2.2 h), mkls_of F_250.1, J_250_0]
  rfl
theorem F_251 : (mT 251).2.2.1 = 2 ∧ (mwd 251).1 = 0 ∧ mcl 251 = 12 := by decide +kernel
theorem G_251 : cdl.getD 251 [] = cd_251 := rfl
theorem J_251_0 : jmp 251 0 = k_251_0 := by unfold jmp; rw [G_251]; rfl
theorem J_251_14 : jmp 251 14 = k_251_14 := by unfold jmp; rw [G_251]; rfl
/-- FewEndsModel.wantSign(I)Z -/
theorem E_251 {x1 : Int} (h : knd Sh a = 12) : evc X 251 [vR (some a), vI x1] Sh M = ev X 251 k_251_0 [some (vR (some a)), some (vI x1)] [] Sh M := by
  rw [evc_go (by rw [F_251.1]; show 2 ≤ 2; omega) (rcv_v F_251.2.1 F_251.2.2 h), mkls_of F_251.1, J_251_0]
  rfl
theorem F_252 : (mT 252).2.2.1 = 2 ∧ (mwd 252).1 = 0 ∧ mcl 252 = 12 := by decide +kernel
theorem G_252 : cdl.getD 252 [] = cd_252 := rfl
theorem J_252_0 : jmp 252 0 = k_252_0 := by unfold jmp; rw [G_252]; rfl
theorem J_252_20 : jmp 252 20 = k_252_20 := by unfold jmp; rw [G_252]; rfl
theorem J_252_21 : jmp 252 21 = k_252_21 := by unfold jmp; rw [G_252]; rfl
/-- FewEndsModel.isSign(I)Z -/
theorem E_252 {x1 : Int} (h : knd Sh a = 12) : evc X 252 [vR (some a), vI x1] Sh M = ev X 252 k_252_0 [some (vR (some a)), some (vI x1)] [] Sh M := by
  rw [evc_go (by rw [F_252.1]; show 2 ≤ 2; omega) (rcv_v F_252.2.1 F_252.2.2 h), mkls_of F_252.1, J_252_0]
  rfl
theorem F_253 : (mT 253).2.2.1 = 3 ∧ (mwd 253).1 = 0 ∧ mcl 253 = 12 := by decide +kernel
theorem G_253 : cdl.getD 253 [] = cd_253 := rfl
theorem J_253_0 : jmp 253 0 = k_253_0 := by unfold jmp; rw [G_253]; rfl
theorem J_253_18 : jmp 253 18 = k_253_18 := by unfold jmp; rw [G_253]; rfl
theorem J_253_24 : jmp 253 24 = k_253_24 := by unfold jmp; rw [G_253]; rfl
theorem J_253_47 : jmp 253 47 = k_253_47 := by unfold jmp; rw [G_253]; rfl
theorem J_253_71 : jmp 253 71 = k_253_71 := by unfold jmp; rw [G_253]; rfl
theorem J_253_83 : jmp 253 83 = k_253_83 := by unfold jmp; rw [G_253]; rfl
theorem J_253_88 : jmp 253 88 = k_253_88 := by unfold jmp; rw [G_253]; rfl
theorem J_253_106 : jmp 253 106 = k_253_106 := by unfold jmp; rw [G_253]; rfl
theorem J_253_107 : jmp 253 107 = k_253_107 := by unfold jmp; rw [G_253]; rfl
/-- FewEndsModel.chartPart()Z -/
theorem E_253 (h : knd Sh a = 12) : evc X 253 [vR (some a)] Sh M = ev X 253 k_253_0 [some (vR (some a)), none, none] [] Sh M := by
  rw [evc_go (by rw [F_253.1]; show 1 ≤ 3; omega) (rcv_v F_253.2.1 F_253.2.2 h), mkls_of F_253.1, J_253_0]
  rfl
theorem F_254 : (mT 254).2.2.1 = 3 ∧ (mwd 254).1 = 0 ∧ mcl 254 = 12 := by decide +kernel
theorem G_254 : cdl.getD 254 [] = cd_254 := rfl
theorem J_254_0 : jmp 254 0 = k_254_0 := by unfold jmp; rw [G_254]; rfl
theorem J_254_21 : jmp 254 21 = k_254_21 := by unfold jmp; rw [G_254]; rfl
theorem J_254_40 : jmp 254 40 = k_254_40 := by unfold jmp; rw [G_254]; rfl
theorem J_254_57 : jmp 254 57 = k_254_57 := by unfold jmp; rw [G_254]; rfl
theorem J_254_128 : jmp 254 128 = k_254_128 := by unfold jmp; rw [G_254]; rfl
theorem J_254_130 : jmp 254 130 = k_254_130 := by unfold jmp; rw [G_254]; rfl
/-- FewEndsModel.aColour()Z -/
theorem E_254 (h : knd Sh a = 12) : evc X 254 [vR (some a)] Sh M = ev X 254 k_254_0 [some (vR (some a)), none, none] [] Sh M := by
  rw [evc_go (by rw [F_254.1]; show 1 ≤ 3; omega) (rcv_v F_254.2.1 F_254.2.2 h), mkls_of F_254.1, J_254_0]
  rfl
theorem F_255 : (mT 255).2.2.1 = 2 ∧ (mwd 255).1 = 0 ∧ mcl 255 = 12 := by decide +kernel
theorem G_255 : cdl.getD 255 [] = cd_255 := rfl
theorem J_255_0 : jmp 255 0 = k_255_0 := by unfold jmp; rw [G_255]; rfl
theorem J_255_35 : jmp 255 35 = k_255_35 := by unfold jmp; rw [G_255]; rfl
theorem J_255_36 : jmp 255 36 = k_255_36 := by unfold jmp; rw [G_255]; rfl
/-- FewEndsModel.isName(Ljava/lang/String;)Z -/
theorem E_255 {x1 : Nat} (h : knd Sh a = 12) (hx1 : x1 < 21) : evc X 255 [vR (some a), vS x1] Sh M = ev X 255 k_255_0 [some (vR (some a)), some (vS x1)] [] Sh M := by
  rw [evc_go (by rw [F_255.1]; show 2 ≤ 2; omega) (rcv_v F_255.2.1 F_255.2.2 h), mkls_of F_255.1, J_255_0]
  show ev X 255 k_255_0 [some (vR (some a)), (if x1 < 21 then some (vS x1) else none)] [] Sh M = _
  rw [if_pos hx1]
theorem F_256 : (mT 256).2.2.1 = 4 ∧ (mwd 256).1 = 0 ∧ mcl 256 = 12 := by decide +kernel
theorem G_256 : cdl.getD 256 [] = cd_256 := rfl
theorem J_256_0 : jmp 256 0 = k_256_0 := by unfold jmp; rw [G_256]; rfl
theorem J_256_2 : jmp 256 2 = k_256_2 := by unfold jmp; rw [G_256]; rfl
theorem J_256_25 : jmp 256 25 = k_256_25 := by unfold jmp; rw [G_256]; rfl
theorem J_256_31 : jmp 256 31 = k_256_31 := by unfold jmp; rw [G_256]; rfl
/-- FewEndsModel.findHere(II)I -/
theorem E_256 {x1 : Int} {x2 : Int} (h : knd Sh a = 12) : evc X 256 [vR (some a), vI x1, vI x2] Sh M = ev X 256 k_256_0 [some (vR (some a)), some (vI x1), some (vI x2), none] [] Sh M := by
  rw [evc_go (by rw [F_256.1]; show 3 ≤ 4; omega) (rcv_v F_256.2.1 F_256.2.2 h), mkls_of F_256.1, J_256_0]
  rfl
theorem F_257 : (mT 257).2.2.1 = 4 ∧ (mwd 257).1 = 0 ∧ mcl 257 = 12 := by decide +kernel
theorem G_257 : cdl.getD 257 [] = cd_257 := rfl
theorem J_257_0 : jmp 257 0 = k_257_0 := by unfold jmp; rw [G_257]; rfl
theorem J_257_7 : jmp 257 7 = k_257_7 := by unfold jmp; rw [G_257]; rfl
theorem J_257_33 : jmp 257 33 = k_257_33 := by unfold jmp; rw [G_257]; rfl
/-- FewEndsModel.nameHere()J -/
theorem E_257 (h : knd Sh a = 12) : evc X 257 [vR (some a)] Sh M = ev X 257 k_257_0 [some (vR (some a)), none, none, none] [] Sh M := by
  rw [evc_go (by rw [F_257.1]; show 1 ≤ 4; omega) (rcv_v F_257.2.1 F_257.2.2 h), mkls_of F_257.1, J_257_0]
  rfl
theorem F_258 : (mT 258).2.2.1 = 3 ∧ (mwd 258).1 = 0 ∧ mcl 258 = 12 := by decide +kernel
theorem G_258 : cdl.getD 258 [] = cd_258 := rfl
theorem J_258_0 : jmp 258 0 = k_258_0 := by unfold jmp; rw [G_258]; rfl
theorem J_258_22 : jmp 258 22 = k_258_22 := by unfold jmp; rw [G_258]; rfl
theorem J_258_41 : jmp 258 41 = k_258_41 := by unfold jmp; rw [G_258]; rfl
theorem J_258_43 : jmp 258 43 = k_258_43 := by unfold jmp; rw [G_258]; rfl
theorem J_258_78 : jmp 258 78 = k_258_78 := by unfold jmp; rw [G_258]; rfl
theorem J_258_97 : jmp 258 97 = k_258_97 := by unfold jmp; rw [G_258]; rfl
theorem J_258_132 : jmp 258 132 = k_258_132 := by unfold jmp; rw [G_258]; rfl
theorem J_258_160 : jmp 258 160 = k_258_160 := by unfold jmp; rw [G_258]; rfl
/-- FewEndsModel.aRow()Z -/
theorem E_258 (h : knd Sh a = 12) : evc X 258 [vR (some a)] Sh M = ev X 258 k_258_0 [some (vR (some a)), none, none] [] Sh M := by
  rw [evc_go (by rw [F_258.1]; show 1 ≤ 3; omega) (rcv_v F_258.2.1 F_258.2.2 h), mkls_of F_258.1, J_258_0]
  rfl
theorem F_259 : (mT 259).2.2.1 = 2 ∧ (mwd 259).1 = 0 ∧ mcl 259 = 12 := by decide +kernel
theorem G_259 : cdl.getD 259 [] = cd_259 := rfl
theorem J_259_0 : jmp 259 0 = k_259_0 := by unfold jmp; rw [G_259]; rfl
theorem J_259_52 : jmp 259 52 = k_259_52 := by unfold jmp; rw [G_259]; rfl
theorem J_259_63 : jmp 259 63 = k_259_63 := by unfold jmp; rw [G_259]; rfl
theorem J_259_74 : jmp 259 74 = k_259_74 := by unfold jmp; rw [G_259]; rfl
theorem J_259_85 : jmp 259 85 = k_259_85 := by unfold jmp; rw [G_259]; rfl
theorem J_259_97 : jmp 259 97 = k_259_97 := by unfold jmp; rw [G_259]; rfl
theorem J_259_109 : jmp 259 109 = k_259_109 := by unfold jmp; rw [G_259]; rfl
theorem J_259_120 : jmp 259 120 = k_259_120 := by unfold jmp; rw [G_259]; rfl
theorem J_259_132 : jmp 259 132 = k_259_132 := by unfold jmp; rw [G_259]; rfl
theorem J_259_144 : jmp 259 144 = k_259_144 := by unfold jmp; rw [G_259]; rfl
/-- FewEndsModel.once(I)Z -/
theorem E_259 {x1 : Int} (h : knd Sh a = 12) : evc X 259 [vR (some a), vI x1] Sh M = ev X 259 k_259_0 [some (vR (some a)), some (vI x1)] [] Sh M := by
  rw [evc_go (by rw [F_259.1]; show 2 ≤ 2; omega) (rcv_v F_259.2.1 F_259.2.2 h), mkls_of F_259.1, J_259_0]
  rfl
theorem F_260 : (mT 260).2.2.1 = 5 ∧ (mwd 260).1 = 0 ∧ mcl 260 = 12 := by decide +kernel
theorem G_260 : cdl.getD 260 [] = cd_260 := rfl
theorem J_260_0 : jmp 260 0 = k_260_0 := by unfold jmp; rw [G_260]; rfl
theorem J_260_46 : jmp 260 46 = k_260_46 := by unfold jmp; rw [G_260]; rfl
theorem J_260_47 : jmp 260 47 = k_260_47 := by unfold jmp; rw [G_260]; rfl
/-- FewEndsModel.withCost(IIII)Z -/
theorem E_260 {x1 : Int} {x2 : Int} {x3 : Int} {x4 : Int} (h : knd Sh a = 12) : evc X 260 [vR (some a), vI x1, vI x2, vI x3, vI x4] Sh M = ev X 260 k_260_0 [some (vR (some a)), some (vI x1), some (vI x2), some (vI x3), some (vI x4)] [] Sh M := by
  rw [evc_go (by rw [F_260.1]; show 5 ≤ 5; omega) (rcv_v F_260.2.1 F_260.2.2 h), mkls_of F_260.1, J_260_0]
  rfl
theorem F_261 : (mT 261).2.2.1 = 2 ∧ (mwd 261).1 = 0 ∧ mcl 261 = 12 := by decide +kernel
theorem G_261 : cdl.getD 261 [] = cd_261 := rfl
theorem J_261_0 : jmp 261 0 = k_261_0 := by unfold jmp; rw [G_261]; rfl
theorem J_261_24 : jmp 261 24 = k_261_24 := by unfold jmp; rw [G_261]; rfl
theorem J_261_29 : jmp 261 29 = k_261_29 := by unfold jmp; rw [G_261]; rfl
/-- FewEndsModel.taken(I)I -/
theorem E_261 {x1 : Int} (h : knd Sh a = 12) : evc X 261 [vR (some a), vI x1] Sh M = ev X 261 k_261_0 [some (vR (some a)), some (vI x1)] [] Sh M := by
  rw [evc_go (by rw [F_261.1]; show 2 ≤ 2; omega) (rcv_v F_261.2.1 F_261.2.2 h), mkls_of F_261.1, J_261_0]
  rfl
theorem F_262 : (mT 262).2.2.1 = 2 ∧ (mwd 262).1 = 0 ∧ mcl 262 = 12 := by decide +kernel
theorem G_262 : cdl.getD 262 [] = cd_262 := rfl
theorem J_262_0 : jmp 262 0 = k_262_0 := by unfold jmp; rw [G_262]; rfl
/-- FewEndsModel.gives(I)I -/
theorem E_262 {x1 : Int} (h : knd Sh a = 12) : evc X 262 [vR (some a), vI x1] Sh M = ev X 262 k_262_0 [some (vR (some a)), some (vI x1)] [] Sh M := by
  rw [evc_go (by rw [F_262.1]; show 2 ≤ 2; omega) (rcv_v F_262.2.1 F_262.2.2 h), mkls_of F_262.1, J_262_0]
  rfl
theorem F_263 : (mT 263).2.2.1 = 4 ∧ (mwd 263).1 = 0 ∧ mcl 263 = 12 := by decide +kernel
theorem G_263 : cdl.getD 263 [] = cd_263 := rfl
theorem J_263_0 : jmp 263 0 = k_263_0 := by unfold jmp; rw [G_263]; rfl
theorem J_263_17 : jmp 263 17 = k_263_17 := by unfold jmp; rw [G_263]; rfl
theorem J_263_38 : jmp 263 38 = k_263_38 := by unfold jmp; rw [G_263]; rfl
theorem J_263_57 : jmp 263 57 = k_263_57 := by unfold jmp; rw [G_263]; rfl
theorem J_263_77 : jmp 263 77 = k_263_77 := by unfold jmp; rw [G_263]; rfl
theorem J_263_103 : jmp 263 103 = k_263_103 := by unfold jmp; rw [G_263]; rfl
theorem J_263_132 : jmp 263 132 = k_263_132 := by unfold jmp; rw [G_263]; rfl
/-- FewEndsModel.directions(I)I -/
theorem E_263 {x1 : Int} (h : knd Sh a = 12) : evc X 263 [vR (some a), vI x1] Sh M = ev X 263 k_263_0 [some (vR (some a)), some (vI x1), none, none] [] Sh M := by
  rw [evc_go (by rw [F_263.1]; show 2 ≤ 4; omega) (rcv_v F_263.2.1 F_263.2.2 h), mkls_of F_263.1, J_263_0]
  rfl
theorem F_264 : (mT 264).2.2.1 = 5 ∧ (mwd 264).1 = 0 ∧ mcl 264 = 12 := by decide +kernel
theorem G_264 : cdl.getD 264 [] = cd_264 := rfl
theorem J_264_0 : jmp 264 0 = k_264_0 := by unfold jmp; rw [G_264]; rfl
theorem J_264_42 : jmp 264 42 = k_264_42 := by unfold jmp; rw [G_264]; rfl
theorem J_264_48 : jmp 264 48 = k_264_48 := by unfold jmp; rw [G_264]; rfl
theorem J_264_69 : jmp 264 69 = k_264_69 := by unfold jmp; rw [G_264]; rfl
theorem J_264_89 : jmp 264 89 = k_264_89 := by unfold jmp; rw [G_264]; rfl
theorem J_264_103 : jmp 264 103 = k_264_103 := by unfold jmp; rw [G_264]; rfl
theorem J_264_104 : jmp 264 104 = k_264_104 := by unfold jmp; rw [G_264]; rfl
theorem J_264_111 : jmp 264 111 = k_264_111 := by unfold jmp; rw [G_264]; rfl
theorem J_264_133 : jmp 264 133 = k_264_133 := by unfold jmp; rw [G_264]; rfl
theorem J_264_194 : jmp 264 194 = k_264_194 := by unfold jmp; rw [G_264]; rfl
theorem J_264_200 : jmp 264 200 = k_264_200 := by unfold jmp; rw [G_264]; rfl
theorem J_264_237 : jmp 264 237 = k_264_237 := by unfold jmp; rw [G_264]; rfl
theorem J_264_241 : jmp 264 241 = k_264_241 := by unfold jmp; rw [G_264]; rfl
theorem J_264_250 : jmp 264 250 = k_264_250 := by unfold jmp; rw [G_264]; rfl
theorem J_264_265 : jmp 264 265 = k_264_265 := by unfold jmp; rw [G_264]; rfl
theorem J_264_290 : jmp 264 290 = k_264_290 := by unfold jmp; rw [G_264]; rfl
theorem J_264_322 : jmp 264 322 = k_264_322 := by unfold jmp; rw [G_264]; rfl
/-- FewEndsModel.step()Z -/
theorem E_264 (h : knd Sh a = 12) : evc X 264 [vR (some a)] Sh M = ev X 264 k_264_0 [some (vR (some a)), none, none, none, none] [] Sh M := by
  rw [evc_go (by rw [F_264.1]; show 1 ≤ 5; omega) (rcv_v F_264.2.1 F_264.2.2 h), mkls_of F_264.1, J_264_0]
  rfl
theorem F_265 : (mT 265).2.2.1 = 2 ∧ (mwd 265).1 = 0 ∧ mcl 265 = 12 := by decide +kernel
theorem G_265 : cdl.getD 265 [] = cd_265 := rfl
theorem J_265_0 : jmp 265 0 = k_265_0 := by unfold jmp; rw [G_265]; rfl
theorem J_265_10 : jmp 265 10 = k_265_10 := by unfold jmp; rw [G_265]; rfl
theorem J_265_18 : jmp 265 18 = k_265_18 := by unfold jmp; rw [G_265]; rfl
theorem J_265_28 : jmp 265 28 = k_265_28 := by unfold jmp; rw [G_265]; rfl
/-- FewEndsModel.told(I)I -/
theorem E_265 {x1 : Int} (h : knd Sh a = 12) : evc X 265 [vR (some a), vI x1] Sh M = ev X 265 k_265_0 [some (vR (some a)), some (vI x1)] [] Sh M := by
  rw [evc_go (by rw [F_265.1]; show 2 ≤ 2; omega) (rcv_v F_265.2.1 F_265.2.2 h), mkls_of F_265.1, J_265_0]
  rfl
theorem F_266 : (mT 266).2.2.1 = 3 ∧ (mwd 266).1 = 0 ∧ mcl 266 = 12 := by decide +kernel
theorem G_266 : cdl.getD 266 [] = cd_266 := rfl
theorem J_266_0 : jmp 266 0 = k_266_0 := by unfold jmp; rw [G_266]; rfl
theorem J_266_17 : jmp 266 17 = k_266_17 := by unfold jmp; rw [G_266]; rfl
theorem J_266_23 : jmp 266 23 = k_266_23 := by unfold jmp; rw [G_266]; rfl
theorem J_266_45 : jmp 266 45 = k_266_45 := by unfold jmp; rw [G_266]; rfl
theorem J_266_50 : jmp 266 50 = k_266_50 := by unfold jmp; rw [G_266]; rfl
/-- FewEndsModel.colour(II)I -/
theorem E_266 {x1 : Int} {x2 : Int} (h : knd Sh a = 12) : evc X 266 [vR (some a), vI x1, vI x2] Sh M = ev X 266 k_266_0 [some (vR (some a)), some (vI x1), some (vI x2)] [] Sh M := by
  rw [evc_go (by rw [F_266.1]; show 3 ≤ 3; omega) (rcv_v F_266.2.1 F_266.2.2 h), mkls_of F_266.1, J_266_0]
  rfl
theorem F_267 : (mT 267).2.2.1 = 2 ∧ (mwd 267).1 = 0 ∧ mcl 267 = 12 := by decide +kernel
theorem G_267 : cdl.getD 267 [] = cd_267 := rfl
theorem J_267_0 : jmp 267 0 = k_267_0 := by unfold jmp; rw [G_267]; rfl
theorem J_267_18 : jmp 267 18 = k_267_18 := by unfold jmp; rw [G_267]; rfl
theorem J_267_19 : jmp 267 19 = k_267_19 := by unfold jmp; rw [G_267]; rfl
/-- FewEndsModel.isColour(I)Z -/
theorem E_267 {x1 : Int} (h : knd Sh a = 12) : evc X 267 [vR (some a), vI x1] Sh M = ev X 267 k_267_0 [some (vR (some a)), some (vI x1)] [] Sh M := by
  rw [evc_go (by rw [F_267.1]; show 2 ≤ 2; omega) (rcv_v F_267.2.1 F_267.2.2 h), mkls_of F_267.1, J_267_0]
  rfl
theorem F_268 : (mT 268).2.2.1 = 4 ∧ (mwd 268).1 = 0 ∧ mcl 268 = 12 := by decide +kernel
theorem G_268 : cdl.getD 268 [] = cd_268 := rfl
theorem J_268_0 : jmp 268 0 = k_268_0 := by unfold jmp; rw [G_268]; rfl
theorem J_268_4 : jmp 268 4 = k_268_4 := by unfold jmp; rw [G_268]; rfl
theorem J_268_27 : jmp 268 27 = k_268_27 := by unfold jmp; rw [G_268]; rfl
theorem J_268_28 : jmp 268 28 = k_268_28 := by unfold jmp; rw [G_268]; rfl
theorem J_268_36 : jmp 268 36 = k_268_36 := by unfold jmp; rw [G_268]; rfl
/-- FewEndsModel.stitchesOf(I)I -/
theorem E_268 {x1 : Int} (h : knd Sh a = 12) : evc X 268 [vR (some a), vI x1] Sh M = ev X 268 k_268_0 [some (vR (some a)), some (vI x1), none, none] [] Sh M := by
  rw [evc_go (by rw [F_268.1]; show 2 ≤ 4; omega) (rcv_v F_268.2.1 F_268.2.2 h), mkls_of F_268.1, J_268_0]
  rfl
theorem F_269 : (mT 269).2.2.1 = 3 ∧ (mwd 269).1 = 0 ∧ mcl 269 = 12 := by decide +kernel
theorem G_269 : cdl.getD 269 [] = cd_269 := rfl
theorem J_269_0 : jmp 269 0 = k_269_0 := by unfold jmp; rw [G_269]; rfl
theorem J_269_18 : jmp 269 18 = k_269_18 := by unfold jmp; rw [G_269]; rfl
theorem J_269_24 : jmp 269 24 = k_269_24 := by unfold jmp; rw [G_269]; rfl
theorem J_269_38 : jmp 269 38 = k_269_38 := by unfold jmp; rw [G_269]; rfl
theorem J_269_51 : jmp 269 51 = k_269_51 := by unfold jmp; rw [G_269]; rfl
theorem J_269_56 : jmp 269 56 = k_269_56 := by unfold jmp; rw [G_269]; rfl
/-- FewEndsModel.stitch(II)I -/
theorem E_269 {x1 : Int} {x2 : Int} (h : knd Sh a = 12) : evc X 269 [vR (some a), vI x1, vI x2] Sh M = ev X 269 k_269_0 [some (vR (some a)), some (vI x1), some (vI x2)] [] Sh M := by
  rw [evc_go (by rw [F_269.1]; show 3 ≤ 3; omega) (rcv_v F_269.2.1 F_269.2.2 h), mkls_of F_269.1, J_269_0]
  rfl
theorem F_270 : (mT 270).2.2.1 = 3 ∧ (mwd 270).1 = 0 ∧ mcl 270 = 12 := by decide +kernel
theorem G_270 : cdl.getD 270 [] = cd_270 := rfl
theorem J_270_0 : jmp 270 0 = k_270_0 := by unfold jmp; rw [G_270]; rfl
theorem J_270_20 : jmp 270 20 = k_270_20 := by unfold jmp; rw [G_270]; rfl
theorem J_270_21 : jmp 270 21 = k_270_21 := by unfold jmp; rw [G_270]; rfl
/-- FewEndsModel.isStitch(J)Z -/
theorem E_270 {x1 : Int} (h : knd Sh a = 12) : evc X 270 [vR (some a), vL x1] Sh M = ev X 270 k_270_0 [some (vR (some a)), some (vL x1), none] [] Sh M := by
  rw [evc_go (by rw [F_270.1]; show 3 ≤ 3; omega) (rcv_v F_270.2.1 F_270.2.2 h), mkls_of F_270.1, J_270_0]
  rfl
theorem F_271 : (mT 271).2.2.1 = 2 ∧ (mwd 271).1 = 0 ∧ mcl 271 = 12 := by decide +kernel
theorem G_271 : cdl.getD 271 [] = cd_271 := rfl
theorem J_271_0 : jmp 271 0 = k_271_0 := by unfold jmp; rw [G_271]; rfl
/-- FewEndsModel.xOf(I)I -/
theorem E_271 {x1 : Int} (h : knd Sh a = 12) : evc X 271 [vR (some a), vI x1] Sh M = ev X 271 k_271_0 [some (vR (some a)), some (vI x1)] [] Sh M := by
  rw [evc_go (by rw [F_271.1]; show 2 ≤ 2; omega) (rcv_v F_271.2.1 F_271.2.2 h), mkls_of F_271.1, J_271_0]
  rfl
theorem F_272 : (mT 272).2.2.1 = 2 ∧ (mwd 272).1 = 0 ∧ mcl 272 = 12 := by decide +kernel
theorem G_272 : cdl.getD 272 [] = cd_272 := rfl
theorem J_272_0 : jmp 272 0 = k_272_0 := by unfold jmp; rw [G_272]; rfl
/-- FewEndsModel.rowOf(I)I -/
theorem E_272 {x1 : Int} (h : knd Sh a = 12) : evc X 272 [vR (some a), vI x1] Sh M = ev X 272 k_272_0 [some (vR (some a)), some (vI x1)] [] Sh M := by
  rw [evc_go (by rw [F_272.1]; show 2 ≤ 2; omega) (rcv_v F_272.2.1 F_272.2.2 h), mkls_of F_272.1, J_272_0]
  rfl
theorem F_273 : (mT 273).2.2.1 = 4 ∧ (mwd 273).1 = 0 ∧ mcl 273 = 12 := by decide +kernel
theorem G_273 : cdl.getD 273 [] = cd_273 := rfl
theorem J_273_0 : jmp 273 0 = k_273_0 := by unfold jmp; rw [G_273]; rfl
theorem J_273_22 : jmp 273 22 = k_273_22 := by unfold jmp; rw [G_273]; rfl
theorem J_273_28 : jmp 273 28 = k_273_28 := by unfold jmp; rw [G_273]; rfl
theorem J_273_30 : jmp 273 30 = k_273_30 := by unfold jmp; rw [G_273]; rfl
theorem J_273_55 : jmp 273 55 = k_273_55 := by unfold jmp; rw [G_273]; rfl
/-- FewEndsModel.at(II)I -/
theorem E_273 {x1 : Int} {x2 : Int} (h : knd Sh a = 12) : evc X 273 [vR (some a), vI x1, vI x2] Sh M = ev X 273 k_273_0 [some (vR (some a)), some (vI x1), some (vI x2), none] [] Sh M := by
  rw [evc_go (by rw [F_273.1]; show 3 ≤ 4; omega) (rcv_v F_273.2.1 F_273.2.2 h), mkls_of F_273.1, J_273_0]
  rfl
theorem F_274 : (mT 274).2.2.1 = 2 ∧ (mwd 274).1 = 0 ∧ mcl 274 = 12 := by decide +kernel
theorem G_274 : cdl.getD 274 [] = cd_274 := rfl
theorem J_274_0 : jmp 274 0 = k_274_0 := by unfold jmp; rw [G_274]; rfl
theorem J_274_18 : jmp 274 18 = k_274_18 := by unfold jmp; rw [G_274]; rfl
theorem J_274_19 : jmp 274 19 = k_274_19 := by unfold jmp; rw [G_274]; rfl
/-- FewEndsModel.isRow(I)Z -/
theorem E_274 {x1 : Int} (h : knd Sh a = 12) : evc X 274 [vR (some a), vI x1] Sh M = ev X 274 k_274_0 [some (vR (some a)), some (vI x1)] [] Sh M := by
  rw [evc_go (by rw [F_274.1]; show 2 ≤ 2; omega) (rcv_v F_274.2.1 F_274.2.2 h), mkls_of F_274.1, J_274_0]
  rfl
theorem F_275 : (mT 275).2.2.1 = 3 ∧ (mwd 275).1 = 0 ∧ mcl 275 = 12 := by decide +kernel
theorem G_275 : cdl.getD 275 [] = cd_275 := rfl
theorem J_275_0 : jmp 275 0 = k_275_0 := by unfold jmp; rw [G_275]; rfl
theorem J_275_24 : jmp 275 24 = k_275_24 := by unfold jmp; rw [G_275]; rfl
theorem J_275_29 : jmp 275 29 = k_275_29 := by unfold jmp; rw [G_275]; rfl
/-- FewEndsModel.lawful(II)I -/
theorem E_275 {x1 : Int} {x2 : Int} (h : knd Sh a = 12) : evc X 275 [vR (some a), vI x1, vI x2] Sh M = ev X 275 k_275_0 [some (vR (some a)), some (vI x1), some (vI x2)] [] Sh M := by
  rw [evc_go (by rw [F_275.1]; show 3 ≤ 3; omega) (rcv_v F_275.2.1 F_275.2.2 h), mkls_of F_275.1, J_275_0]
  rfl
theorem F_276 : (mT 276).2.2.1 = 5 ∧ (mwd 276).1 = 0 ∧ mcl 276 = 12 := by decide +kernel
theorem G_276 : cdl.getD 276 [] = cd_276 := rfl
theorem J_276_0 : jmp 276 0 = k_276_0 := by unfold jmp; rw [G_276]; rfl
theorem J_276_26 : jmp 276 26 = k_276_26 := by unfold jmp; rw [G_276]; rfl
theorem J_276_27 : jmp 276 27 = k_276_27 := by unfold jmp; rw [G_276]; rfl
/-- FewEndsModel.isCouple(JJ)Z -/
theorem E_276 {x1 : Int} {x2 : Int} (h : knd Sh a = 12) : evc X 276 [vR (some a), vL x1, vL x2] Sh M = ev X 276 k_276_0 [some (vR (some a)), some (vL x1), none, some (vL x2), none] [] Sh M := by
  rw [evc_go (by rw [F_276.1]; show 5 ≤ 5; omega) (rcv_v F_276.2.1 F_276.2.2 h), mkls_of F_276.1, J_276_0]
  rfl
theorem F_277 : (mT 277).2.2.1 = 4 ∧ (mwd 277).1 = 0 ∧ mcl 277 = 12 := by decide +kernel
theorem G_277 : cdl.getD 277 [] = cd_277 := rfl
theorem J_277_0 : jmp 277 0 = k_277_0 := by unfold jmp; rw [G_277]; rfl
theorem J_277_23 : jmp 277 23 = k_277_23 := by unfold jmp; rw [G_277]; rfl
theorem J_277_29 : jmp 277 29 = k_277_29 := by unfold jmp; rw [G_277]; rfl
theorem J_277_53 : jmp 277 53 = k_277_53 := by unfold jmp; rw [G_277]; rfl
theorem J_277_67 : jmp 277 67 = k_277_67 := by unfold jmp; rw [G_277]; rfl
theorem J_277_81 : jmp 277 81 = k_277_81 := by unfold jmp; rw [G_277]; rfl
theorem J_277_82 : jmp 277 82 = k_277_82 := by unfold jmp; rw [G_277]; rfl
theorem J_277_83 : jmp 277 83 = k_277_83 := by unfold jmp; rw [G_277]; rfl
theorem J_277_126 : jmp 277 126 = k_277_126 := by unfold jmp; rw [G_277]; rfl
theorem J_277_127 : jmp 277 127 = k_277_127 := by unfold jmp; rw [G_277]; rfl
/-- FewEndsModel.wayOf(II)I -/
theorem E_277 {x1 : Int} {x2 : Int} (h : knd Sh a = 12) : evc X 277 [vR (some a), vI x1, vI x2] Sh M = ev X 277 k_277_0 [some (vR (some a)), some (vI x1), some (vI x2), none] [] Sh M := by
  rw [evc_go (by rw [F_277.1]; show 3 ≤ 4; omega) (rcv_v F_277.2.1 F_277.2.2 h), mkls_of F_277.1, J_277_0]
  rfl
theorem F_278 : (mT 278).2.2.1 = 3 ∧ (mwd 278).1 = 0 ∧ mcl 278 = 12 := by decide +kernel
theorem G_278 : cdl.getD 278 [] = cd_278 := rfl
theorem J_278_0 : jmp 278 0 = k_278_0 := by unfold jmp; rw [G_278]; rfl
theorem J_278_19 : jmp 278 19 = k_278_19 := by unfold jmp; rw [G_278]; rfl
theorem J_278_37 : jmp 278 37 = k_278_37 := by unfold jmp; rw [G_278]; rfl
theorem J_278_47 : jmp 278 47 = k_278_47 := by unfold jmp; rw [G_278]; rfl
/-- FewEndsModel.cost(II)I -/
theorem E_278 {x1 : Int} {x2 : Int} (h : knd Sh a = 12) : evc X 278 [vR (some a), vI x1, vI x2] Sh M = ev X 278 k_278_0 [some (vR (some a)), some (vI x1), some (vI x2)] [] Sh M := by
  rw [evc_go (by rw [F_278.1]; show 3 ≤ 3; omega) (rcv_v F_278.2.1 F_278.2.2 h), mkls_of F_278.1, J_278_0]
  rfl
theorem F_279 : (mT 279).2.2.1 = 7 ∧ (mwd 279).1 = 0 ∧ mcl 279 = 12 := by decide +kernel
theorem G_279 : cdl.getD 279 [] = cd_279 := rfl
theorem J_279_0 : jmp 279 0 = k_279_0 := by unfold jmp; rw [G_279]; rfl
theorem J_279_21 : jmp 279 21 = k_279_21 := by unfold jmp; rw [G_279]; rfl
theorem J_279_34 : jmp 279 34 = k_279_34 := by unfold jmp; rw [G_279]; rfl
theorem J_279_54 : jmp 279 54 = k_279_54 := by unfold jmp; rw [G_279]; rfl
theorem J_279_105 : jmp 279 105 = k_279_105 := by unfold jmp; rw [G_279]; rfl
/-- FewEndsModel.costOf(II)I -/
theorem E_279 {x1 : Int} {x2 : Int} (h : knd Sh a = 12) : evc X 279 [vR (some a), vI x1, vI x2] Sh M = ev X 279 k_279_0 [some (vR (some a)), some (vI x1), some (vI x2), none, none, none, none] [] Sh M := by
  rw [evc_go (by rw [F_279.1]; show 3 ≤ 7; omega) (rcv_v F_279.2.1 F_279.2.2 h), mkls_of F_279.1, J_279_0]
  rfl
theorem F_280 : (mT 280).2.2.1 = 3 ∧ (mwd 280).1 = 0 ∧ mcl 280 = 12 := by decide +kernel
theorem G_280 : cdl.getD 280 [] = cd_280 := rfl
theorem J_280_0 : jmp 280 0 = k_280_0 := by unfold jmp; rw [G_280]; rfl
theorem J_280_19 : jmp 280 19 = k_280_19 := by unfold jmp; rw [G_280]; rfl
theorem J_280_37 : jmp 280 37 = k_280_37 := by unfold jmp; rw [G_280]; rfl
theorem J_280_47 : jmp 280 47 = k_280_47 := by unfold jmp; rw [G_280]; rfl
/-- FewEndsModel.yarnOf(II)I -/
theorem E_280 {x1 : Int} {x2 : Int} (h : knd Sh a = 12) : evc X 280 [vR (some a), vI x1, vI x2] Sh M = ev X 280 k_280_0 [some (vR (some a)), some (vI x1), some (vI x2)] [] Sh M := by
  rw [evc_go (by rw [F_280.1]; show 3 ≤ 3; omega) (rcv_v F_280.2.1 F_280.2.2 h), mkls_of F_280.1, J_280_0]
  rfl
theorem F_281 : (mT 281).2.2.1 = 4 ∧ (mwd 281).1 = 0 ∧ mcl 281 = 12 := by decide +kernel
theorem G_281 : cdl.getD 281 [] = cd_281 := rfl
theorem J_281_0 : jmp 281 0 = k_281_0 := by unfold jmp; rw [G_281]; rfl
theorem J_281_16 : jmp 281 16 = k_281_16 := by unfold jmp; rw [G_281]; rfl
theorem J_281_45 : jmp 281 45 = k_281_45 := by unfold jmp; rw [G_281]; rfl
theorem J_281_50 : jmp 281 50 = k_281_50 := by unfold jmp; rw [G_281]; rfl
theorem J_281_51 : jmp 281 51 = k_281_51 := by unfold jmp; rw [G_281]; rfl
/-- FewEndsModel.strandOf(II)I -/
theorem E_281 {x1 : Int} {x2 : Int} (h : knd Sh a = 12) : evc X 281 [vR (some a), vI x1, vI x2] Sh M = ev X 281 k_281_0 [some (vR (some a)), some (vI x1), some (vI x2), none] [] Sh M := by
  rw [evc_go (by rw [F_281.1]; show 3 ≤ 4; omega) (rcv_v F_281.2.1 F_281.2.2 h), mkls_of F_281.1, J_281_0]
  rfl
theorem F_282 : (mT 282).2.2.1 = 3 ∧ (mwd 282).1 = 0 ∧ mcl 282 = 12 := by decide +kernel
theorem G_282 : cdl.getD 282 [] = cd_282 := rfl
theorem J_282_0 : jmp 282 0 = k_282_0 := by unfold jmp; rw [G_282]; rfl
theorem J_282_17 : jmp 282 17 = k_282_17 := by unfold jmp; rw [G_282]; rfl
theorem J_282_33 : jmp 282 33 = k_282_33 := by unfold jmp; rw [G_282]; rfl
/-- FewEndsModel.link(II)Z -/
theorem E_282 {x1 : Int} {x2 : Int} (h : knd Sh a = 12) : evc X 282 [vR (some a), vI x1, vI x2] Sh M = ev X 282 k_282_0 [some (vR (some a)), some (vI x1), some (vI x2)] [] Sh M := by
  rw [evc_go (by rw [F_282.1]; show 3 ≤ 3; omega) (rcv_v F_282.2.1 F_282.2.2 h), mkls_of F_282.1, J_282_0]
  rfl
theorem F_283 : (mT 283).2.2.1 = 3 ∧ (mwd 283).1 = 0 ∧ mcl 283 = 12 := by decide +kernel
theorem G_283 : cdl.getD 283 [] = cd_283 := rfl
theorem J_283_0 : jmp 283 0 = k_283_0 := by unfold jmp; rw [G_283]; rfl
theorem J_283_35 : jmp 283 35 = k_283_35 := by unfold jmp; rw [G_283]; rfl
theorem J_283_36 : jmp 283 36 = k_283_36 := by unfold jmp; rw [G_283]; rfl
/-- FewEndsModel.canLink(II)Z -/
theorem E_283 {x1 : Int} {x2 : Int} (h : knd Sh a = 12) : evc X 283 [vR (some a), vI x1, vI x2] Sh M = ev X 283 k_283_0 [some (vR (some a)), some (vI x1), some (vI x2)] [] Sh M := by
  rw [evc_go (by rw [F_283.1]; show 3 ≤ 3; omega) (rcv_v F_283.2.1 F_283.2.2 h), mkls_of F_283.1, J_283_0]
  rfl
theorem F_284 : (mT 284).2.2.1 = 3 ∧ (mwd 284).1 = 0 ∧ mcl 284 = 12 := by decide +kernel
theorem G_284 : cdl.getD 284 [] = cd_284 := rfl
theorem J_284_0 : jmp 284 0 = k_284_0 := by unfold jmp; rw [G_284]; rfl
theorem J_284_2 : jmp 284 2 = k_284_2 := by unfold jmp; rw [G_284]; rfl
theorem J_284_22 : jmp 284 22 = k_284_22 := by unfold jmp; rw [G_284]; rfl
theorem J_284_28 : jmp 284 28 = k_284_28 := by unfold jmp; rw [G_284]; rfl
/-- FewEndsModel.from(I)I -/
theorem E_284 {x1 : Int} (h : knd Sh a = 12) : evc X 284 [vR (some a), vI x1] Sh M = ev X 284 k_284_0 [some (vR (some a)), some (vI x1), none] [] Sh M := by
  rw [evc_go (by rw [F_284.1]; show 2 ≤ 3; omega) (rcv_v F_284.2.1 F_284.2.2 h), mkls_of F_284.1, J_284_0]
  rfl
theorem F_285 : (mT 285).2.2.1 = 2 ∧ (mwd 285).1 = 0 ∧ mcl 285 = 12 := by decide +kernel
theorem G_285 : cdl.getD 285 [] = cd_285 := rfl
theorem J_285_0 : jmp 285 0 = k_285_0 := by unfold jmp; rw [G_285]; rfl
theorem J_285_15 : jmp 285 15 = k_285_15 := by unfold jmp; rw [G_285]; rfl
theorem J_285_35 : jmp 285 35 = k_285_35 := by unfold jmp; rw [G_285]; rfl
/-- FewEndsModel.unlink(I)Z -/
theorem E_285 {x1 : Int} (h : knd Sh a = 12) : evc X 285 [vR (some a), vI x1] Sh M = ev X 285 k_285_0 [some (vR (some a)), some (vI x1)] [] Sh M := by
  rw [evc_go (by rw [F_285.1]; show 2 ≤ 2; omega) (rcv_v F_285.2.1 F_285.2.2 h), mkls_of F_285.1, J_285_0]
  rfl
theorem F_286 : (mT 286).2.2.1 = 1 ∧ (mwd 286).1 = 0 ∧ mcl 286 = 12 := by decide +kernel
theorem G_286 : cdl.getD 286 [] = cd_286 := rfl
theorem J_286_0 : jmp 286 0 = k_286_0 := by unfold jmp; rw [G_286]; rfl
/-- FewEndsModel.clear()Z -/
theorem E_286 (h : knd Sh a = 12) : evc X 286 [vR (some a)] Sh M = ev X 286 k_286_0 [some (vR (some a))] [] Sh M := by
  rw [evc_go (by rw [F_286.1]; show 1 ≤ 1; omega) (rcv_v F_286.2.1 F_286.2.2 h), mkls_of F_286.1, J_286_0]
  rfl
theorem F_287 : (mT 287).2.2.1 = 2 ∧ (mwd 287).1 = 0 ∧ mcl 287 = 12 := by decide +kernel
theorem G_287 : cdl.getD 287 [] = cd_287 := rfl
theorem J_287_0 : jmp 287 0 = k_287_0 := by unfold jmp; rw [G_287]; rfl
theorem J_287_2 : jmp 287 2 = k_287_2 := by unfold jmp; rw [G_287]; rfl
theorem J_287_24 : jmp 287 24 = k_287_24 := by unfold jmp; rw [G_287]; rfl
/-- FewEndsModel.clears()V -/
theorem E_287 (h : knd Sh a = 12) : evc X 287 [vR (some a)] Sh M = ev X 287 k_287_0 [some (vR (some a)), none] [] Sh M := by
  rw [evc_go (by rw [F_287.1]; show 1 ≤ 2; omega) (rcv_v F_287.2.1 F_287.2.2 h), mkls_of F_287.1, J_287_0]
  rfl
theorem F_288 : (mT 288).2.2.1 = 7 ∧ (mwd 288).1 = 0 ∧ mcl 288 = 12 := by decide +kernel
theorem G_288 : cdl.getD 288 [] = cd_288 := rfl
theorem J_288_0 : jmp 288 0 = k_288_0 := by unfold jmp; rw [G_288]; rfl
theorem J_288_17 : jmp 288 17 = k_288_17 := by unfold jmp; rw [G_288]; rfl
theorem J_288_23 : jmp 288 23 = k_288_23 := by unfold jmp; rw [G_288]; rfl
theorem J_288_39 : jmp 288 39 = k_288_39 := by unfold jmp; rw [G_288]; rfl
theorem J_288_57 : jmp 288 57 = k_288_57 := by unfold jmp; rw [G_288]; rfl
theorem J_288_65 : jmp 288 65 = k_288_65 := by unfold jmp; rw [G_288]; rfl
theorem J_288_108 : jmp 288 108 = k_288_108 := by unfold jmp; rw [G_288]; rfl
theorem J_288_114 : jmp 288 114 = k_288_114 := by unfold jmp; rw [G_288]; rfl
theorem J_288_125 : jmp 288 125 = k_288_125 := by unfold jmp; rw [G_288]; rfl
theorem J_288_183 : jmp 288 183 = k_288_183 := by unfold jmp; rw [G_288]; rfl
theorem J_288_201 : jmp 288 201 = k_288_201 := by unfold jmp; rw [G_288]; rfl
/-- FewEndsModel.plan(II)Z -/
theorem E_288 {x1 : Int} {x2 : Int} (h : knd Sh a = 12) : evc X 288 [vR (some a), vI x1, vI x2] Sh M = ev X 288 k_288_0 [some (vR (some a)), some (vI x1), some (vI x2), none, none, none, none] [] Sh M := by
  rw [evc_go (by rw [F_288.1]; show 3 ≤ 7; omega) (rcv_v F_288.2.1 F_288.2.2 h), mkls_of F_288.1, J_288_0]
  rfl
theorem F_289 : (mT 289).2.2.1 = 2 ∧ (mwd 289).1 = 0 ∧ mcl 289 = 12 := by decide +kernel
theorem G_289 : cdl.getD 289 [] = cd_289 := rfl
theorem J_289_0 : jmp 289 0 = k_289_0 := by unfold jmp; rw [G_289]; rfl
theorem J_289_2 : jmp 289 2 = k_289_2 := by unfold jmp; rw [G_289]; rfl
theorem J_289_29 : jmp 289 29 = k_289_29 := by unfold jmp; rw [G_289]; rfl
/-- FewEndsModel.keeps()V -/
theorem E_289 (h : knd Sh a = 12) : evc X 289 [vR (some a)] Sh M = ev X 289 k_289_0 [some (vR (some a)), none] [] Sh M := by
  rw [evc_go (by rw [F_289.1]; show 1 ≤ 2; omega) (rcv_v F_289.2.1 F_289.2.2 h), mkls_of F_289.1, J_289_0]
  rfl
theorem F_290 : (mT 290).2.2.1 = 2 ∧ (mwd 290).1 = 0 ∧ mcl 290 = 12 := by decide +kernel
theorem G_290 : cdl.getD 290 [] = cd_290 := rfl
theorem J_290_0 : jmp 290 0 = k_290_0 := by unfold jmp; rw [G_290]; rfl
theorem J_290_2 : jmp 290 2 = k_290_2 := by unfold jmp; rw [G_290]; rfl
theorem J_290_29 : jmp 290 29 = k_290_29 := by unfold jmp; rw [G_290]; rfl
/-- FewEndsModel.brings()V -/
theorem E_290 (h : knd Sh a = 12) : evc X 290 [vR (some a)] Sh M = ev X 290 k_290_0 [some (vR (some a)), none] [] Sh M := by
  rw [evc_go (by rw [F_290.1]; show 1 ≤ 2; omega) (rcv_v F_290.2.1 F_290.2.2 h), mkls_of F_290.1, J_290_0]
  rfl
theorem F_291 : (mT 291).2.2.1 = 2 ∧ (mwd 291).1 = 0 ∧ mcl 291 = 12 := by decide +kernel
theorem G_291 : cdl.getD 291 [] = cd_291 := rfl
theorem J_291_0 : jmp 291 0 = k_291_0 := by unfold jmp; rw [G_291]; rfl
theorem J_291_17 : jmp 291 17 = k_291_17 := by unfold jmp; rw [G_291]; rfl
theorem J_291_39 : jmp 291 39 = k_291_39 := by unfold jmp; rw [G_291]; rfl
theorem J_291_52 : jmp 291 52 = k_291_52 := by unfold jmp; rw [G_291]; rfl
/-- FewEndsModel.goes(I)I -/
theorem E_291 {x1 : Int} (h : knd Sh a = 12) : evc X 291 [vR (some a), vI x1] Sh M = ev X 291 k_291_0 [some (vR (some a)), some (vI x1)] [] Sh M := by
  rw [evc_go (by rw [F_291.1]; show 2 ≤ 2; omega) (rcv_v F_291.2.1 F_291.2.2 h), mkls_of F_291.1, J_291_0]
  rfl
theorem F_292 : (mT 292).2.2.1 = 2 ∧ (mwd 292).1 = 0 ∧ mcl 292 = 12 := by decide +kernel
theorem G_292 : cdl.getD 292 [] = cd_292 := rfl
theorem J_292_0 : jmp 292 0 = k_292_0 := by unfold jmp; rw [G_292]; rfl
theorem J_292_17 : jmp 292 17 = k_292_17 := by unfold jmp; rw [G_292]; rfl
theorem J_292_35 : jmp 292 35 = k_292_35 := by unfold jmp; rw [G_292]; rfl
theorem J_292_44 : jmp 292 44 = k_292_44 := by unfold jmp; rw [G_292]; rfl
/-- FewEndsModel.comes(I)I -/
theorem E_292 {x1 : Int} (h : knd Sh a = 12) : evc X 292 [vR (some a), vI x1] Sh M = ev X 292 k_292_0 [some (vR (some a)), some (vI x1)] [] Sh M := by
  rw [evc_go (by rw [F_292.1]; show 2 ≤ 2; omega) (rcv_v F_292.2.1 F_292.2.2 h), mkls_of F_292.1, J_292_0]
  rfl
theorem F_293 : (mT 293).2.2.1 = 2 ∧ (mwd 293).1 = 0 ∧ mcl 293 = 12 := by decide +kernel
theorem G_293 : cdl.getD 293 [] = cd_293 := rfl
theorem J_293_0 : jmp 293 0 = k_293_0 := by unfold jmp; rw [G_293]; rfl
theorem J_293_13 : jmp 293 13 = k_293_13 := by unfold jmp; rw [G_293]; rfl
theorem J_293_25 : jmp 293 25 = k_293_25 := by unfold jmp; rw [G_293]; rfl
theorem J_293_30 : jmp 293 30 = k_293_30 := by unfold jmp; rw [G_293]; rfl
/-- FewEndsModel.threads(I)I -/
theorem E_293 {x1 : Int} (h : knd Sh a = 12) : evc X 293 [vR (some a), vI x1] Sh M = ev X 293 k_293_0 [some (vR (some a)), some (vI x1)] [] Sh M := by
  rw [evc_go (by rw [F_293.1]; show 2 ≤ 2; omega) (rcv_v F_293.2.1 F_293.2.2 h), mkls_of F_293.1, J_293_0]
  rfl
theorem F_294 : (mT 294).2.2.1 = 4 ∧ (mwd 294).1 = 0 ∧ mcl 294 = 12 := by decide +kernel
theorem G_294 : cdl.getD 294 [] = cd_294 := rfl
theorem J_294_0 : jmp 294 0 = k_294_0 := by unfold jmp; rw [G_294]; rfl
theorem J_294_4 : jmp 294 4 = k_294_4 := by unfold jmp; rw [G_294]; rfl
theorem J_294_37 : jmp 294 37 = k_294_37 := by unfold jmp; rw [G_294]; rfl
theorem J_294_41 : jmp 294 41 = k_294_41 := by unfold jmp; rw [G_294]; rfl
theorem J_294_42 : jmp 294 42 = k_294_42 := by unfold jmp; rw [G_294]; rfl
theorem J_294_50 : jmp 294 50 = k_294_50 := by unfold jmp; rw [G_294]; rfl
/-- FewEndsModel.threadsOf(I)I -/
theorem E_294 {x1 : Int} (h : knd Sh a = 12) : evc X 294 [vR (some a), vI x1] Sh M = ev X 294 k_294_0 [some (vR (some a)), some (vI x1), none, none] [] Sh M := by
  rw [evc_go (by rw [F_294.1]; show 2 ≤ 4; omega) (rcv_v F_294.2.1 F_294.2.2 h), mkls_of F_294.1, J_294_0]
  rfl
theorem F_295 : (mT 295).2.2.1 = 6 ∧ (mwd 295).1 = 0 ∧ mcl 295 = 12 := by decide +kernel
theorem G_295 : cdl.getD 295 [] = cd_295 := rfl
theorem J_295_0 : jmp 295 0 = k_295_0 := by unfold jmp; rw [G_295]; rfl
theorem J_295_8 : jmp 295 8 = k_295_8 := by unfold jmp; rw [G_295]; rfl
theorem J_295_13 : jmp 295 13 = k_295_13 := by unfold jmp; rw [G_295]; rfl
theorem J_295_28 : jmp 295 28 = k_295_28 := by unfold jmp; rw [G_295]; rfl
theorem J_295_34 : jmp 295 34 = k_295_34 := by unfold jmp; rw [G_295]; rfl
theorem J_295_45 : jmp 295 45 = k_295_45 := by unfold jmp; rw [G_295]; rfl
theorem J_295_77 : jmp 295 77 = k_295_77 := by unfold jmp; rw [G_295]; rfl
theorem J_295_84 : jmp 295 84 = k_295_84 := by unfold jmp; rw [G_295]; rfl
theorem J_295_98 : jmp 295 98 = k_295_98 := by unfold jmp; rw [G_295]; rfl
theorem J_295_107 : jmp 295 107 = k_295_107 := by unfold jmp; rw [G_295]; rfl
theorem J_295_120 : jmp 295 120 = k_295_120 := by unfold jmp; rw [G_295]; rfl
theorem J_295_125 : jmp 295 125 = k_295_125 := by unfold jmp; rw [G_295]; rfl
/-- FewEndsModel.thread(II)I -/
theorem E_295 {x1 : Int} {x2 : Int} (h : knd Sh a = 12) : evc X 295 [vR (some a), vI x1, vI x2] Sh M = ev X 295 k_295_0 [some (vR (some a)), some (vI x1), some (vI x2), none, none, none] [] Sh M := by
  rw [evc_go (by rw [F_295.1]; show 3 ≤ 6; omega) (rcv_v F_295.2.1 F_295.2.2 h), mkls_of F_295.1, J_295_0]
  rfl
theorem F_296 : (mT 296).2.2.1 = 4 ∧ (mwd 296).1 = 0 ∧ mcl 296 = 12 := by decide +kernel
theorem G_296 : cdl.getD 296 [] = cd_296 := rfl
theorem J_296_0 : jmp 296 0 = k_296_0 := by unfold jmp; rw [G_296]; rfl
theorem J_296_4 : jmp 296 4 = k_296_4 := by unfold jmp; rw [G_296]; rfl
theorem J_296_24 : jmp 296 24 = k_296_24 := by unfold jmp; rw [G_296]; rfl
theorem J_296_31 : jmp 296 31 = k_296_31 := by unfold jmp; rw [G_296]; rfl
theorem J_296_34 : jmp 296 34 = k_296_34 := by unfold jmp; rw [G_296]; rfl
theorem J_296_40 : jmp 296 40 = k_296_40 := by unfold jmp; rw [G_296]; rfl
/-- FewEndsModel.firstOf(I)I -/
theorem E_296 {x1 : Int} (h : knd Sh a = 12) : evc X 296 [vR (some a), vI x1] Sh M = ev X 296 k_296_0 [some (vR (some a)), some (vI x1), none, none] [] Sh M := by
  rw [evc_go (by rw [F_296.1]; show 2 ≤ 4; omega) (rcv_v F_296.2.1 F_296.2.2 h), mkls_of F_296.1, J_296_0]
  rfl
theorem F_297 : (mT 297).2.2.1 = 3 ∧ (mwd 297).1 = 0 ∧ mcl 297 = 12 := by decide +kernel
theorem G_297 : cdl.getD 297 [] = cd_297 := rfl
theorem J_297_0 : jmp 297 0 = k_297_0 := by unfold jmp; rw [G_297]; rfl
theorem J_297_2 : jmp 297 2 = k_297_2 := by unfold jmp; rw [G_297]; rfl
theorem J_297_28 : jmp 297 28 = k_297_28 := by unfold jmp; rw [G_297]; rfl
/-- FewEndsModel.lastOf(I)I -/
theorem E_297 {x1 : Int} (h : knd Sh a = 12) : evc X 297 [vR (some a), vI x1] Sh M = ev X 297 k_297_0 [some (vR (some a)), some (vI x1), none] [] Sh M := by
  rw [evc_go (by rw [F_297.1]; show 2 ≤ 3; omega) (rcv_v F_297.2.1 F_297.2.2 h), mkls_of F_297.1, J_297_0]
  rfl
theorem F_298 : (mT 298).2.2.1 = 5 ∧ (mwd 298).1 = 0 ∧ mcl 298 = 12 := by decide +kernel
theorem G_298 : cdl.getD 298 [] = cd_298 := rfl
theorem J_298_0 : jmp 298 0 = k_298_0 := by unfold jmp; rw [G_298]; rfl
theorem J_298_24 : jmp 298 24 = k_298_24 := by unfold jmp; rw [G_298]; rfl
theorem J_298_74 : jmp 298 74 = k_298_74 := by unfold jmp; rw [G_298]; rfl
/-- FewEndsModel.yarnFrom(I)I -/
theorem E_298 {x1 : Int} (h : knd Sh a = 12) : evc X 298 [vR (some a), vI x1] Sh M = ev X 298 k_298_0 [some (vR (some a)), some (vI x1), none, none, none] [] Sh M := by
  rw [evc_go (by rw [F_298.1]; show 2 ≤ 5; omega) (rcv_v F_298.2.1 F_298.2.2 h), mkls_of F_298.1, J_298_0]
  rfl
theorem F_299 : (mT 299).2.2.1 = 2 ∧ (mwd 299).1 = 0 ∧ mcl 299 = 12 := by decide +kernel
theorem G_299 : cdl.getD 299 [] = cd_299 := rfl
theorem J_299_0 : jmp 299 0 = k_299_0 := by unfold jmp; rw [G_299]; rfl
theorem J_299_20 : jmp 299 20 = k_299_20 := by unfold jmp; rw [G_299]; rfl
theorem J_299_25 : jmp 299 25 = k_299_25 := by unfold jmp; rw [G_299]; rfl
/-- FewEndsModel.hangs(I)I -/
theorem E_299 {x1 : Int} (h : knd Sh a = 12) : evc X 299 [vR (some a), vI x1] Sh M = ev X 299 k_299_0 [some (vR (some a)), some (vI x1)] [] Sh M := by
  rw [evc_go (by rw [F_299.1]; show 2 ≤ 2; omega) (rcv_v F_299.2.1 F_299.2.2 h), mkls_of F_299.1, J_299_0]
  rfl
theorem F_300 : (mT 300).2.2.1 = 4 ∧ (mwd 300).1 = 0 ∧ mcl 300 = 12 := by decide +kernel
theorem G_300 : cdl.getD 300 [] = cd_300 := rfl
theorem J_300_0 : jmp 300 0 = k_300_0 := by unfold jmp; rw [G_300]; rfl
theorem J_300_4 : jmp 300 4 = k_300_4 := by unfold jmp; rw [G_300]; rfl
theorem J_300_48 : jmp 300 48 = k_300_48 := by unfold jmp; rw [G_300]; rfl
theorem J_300_49 : jmp 300 49 = k_300_49 := by unfold jmp; rw [G_300]; rfl
theorem J_300_57 : jmp 300 57 = k_300_57 := by unfold jmp; rw [G_300]; rfl
/-- FewEndsModel.hangsIn(I)I -/
theorem E_300 {x1 : Int} (h : knd Sh a = 12) : evc X 300 [vR (some a), vI x1] Sh M = ev X 300 k_300_0 [some (vR (some a)), some (vI x1), none, none] [] Sh M := by
  rw [evc_go (by rw [F_300.1]; show 2 ≤ 4; omega) (rcv_v F_300.2.1 F_300.2.2 h), mkls_of F_300.1, J_300_0]
  rfl
theorem F_301 : (mT 301).2.2.1 = 2 ∧ (mwd 301).1 = 0 ∧ mcl 301 = 12 := by decide +kernel
theorem G_301 : cdl.getD 301 [] = cd_301 := rfl
theorem J_301_0 : jmp 301 0 = k_301_0 := by unfold jmp; rw [G_301]; rfl
theorem J_301_20 : jmp 301 20 = k_301_20 := by unfold jmp; rw [G_301]; rfl
theorem J_301_25 : jmp 301 25 = k_301_25 := by unfold jmp; rw [G_301]; rfl
/-- FewEndsModel.tangle(I)I -/
theorem E_301 {x1 : Int} (h : knd Sh a = 12) : evc X 301 [vR (some a), vI x1] Sh M = ev X 301 k_301_0 [some (vR (some a)), some (vI x1)] [] Sh M := by
  rw [evc_go (by rw [F_301.1]; show 2 ≤ 2; omega) (rcv_v F_301.2.1 F_301.2.2 h), mkls_of F_301.1, J_301_0]
  rfl
theorem F_302 : (mT 302).2.2.1 = 2 ∧ (mwd 302).1 = 0 ∧ mcl 302 = 12 := by decide +kernel
theorem G_302 : cdl.getD 302 [] = cd_302 := rfl
theorem J_302_0 : jmp 302 0 = k_302_0 := by unfold jmp; rw [G_302]; rfl
/-- FewEndsModel.tangleOf(I)I -/
theorem E_302 {x1 : Int} (h : knd Sh a = 12) : evc X 302 [vR (some a), vI x1] Sh M = ev X 302 k_302_0 [some (vR (some a)), some (vI x1)] [] Sh M := by
  rw [evc_go (by rw [F_302.1]; show 2 ≤ 2; omega) (rcv_v F_302.2.1 F_302.2.2 h), mkls_of F_302.1, J_302_0]
  rfl
theorem F_303 : (mT 303).2.2.1 = 1 ∧ (mwd 303).1 = 0 ∧ mcl 303 = 12 := by decide +kernel
theorem G_303 : cdl.getD 303 [] = cd_303 := rfl
theorem J_303_0 : jmp 303 0 = k_303_0 := by unfold jmp; rw [G_303]; rfl
/-- FewEndsModel.planCost()I -/
theorem E_303 (h : knd Sh a = 12) : evc X 303 [vR (some a)] Sh M = ev X 303 k_303_0 [some (vR (some a))] [] Sh M := by
  rw [evc_go (by rw [F_303.1]; show 1 ≤ 1; omega) (rcv_v F_303.2.1 F_303.2.2 h), mkls_of F_303.1, J_303_0]
  rfl
theorem F_304 : (mT 304).2.2.1 = 3 ∧ (mwd 304).1 = 0 ∧ mcl 304 = 12 := by decide +kernel
theorem G_304 : cdl.getD 304 [] = cd_304 := rfl
theorem J_304_0 : jmp 304 0 = k_304_0 := by unfold jmp; rw [G_304]; rfl
theorem J_304_17 : jmp 304 17 = k_304_17 := by unfold jmp; rw [G_304]; rfl
theorem J_304_43 : jmp 304 43 = k_304_43 := by unfold jmp; rw [G_304]; rfl
theorem J_304_57 : jmp 304 57 = k_304_57 := by unfold jmp; rw [G_304]; rfl
theorem J_304_65 : jmp 304 65 = k_304_65 := by unfold jmp; rw [G_304]; rfl
theorem J_304_67 : jmp 304 67 = k_304_67 := by unfold jmp; rw [G_304]; rfl
theorem J_304_91 : jmp 304 91 = k_304_91 := by unfold jmp; rw [G_304]; rfl
/-- FewEndsModel.costOfPlan()I -/
theorem E_304 (h : knd Sh a = 12) : evc X 304 [vR (some a)] Sh M = ev X 304 k_304_0 [some (vR (some a)), none, none] [] Sh M := by
  rw [evc_go (by rw [F_304.1]; show 1 ≤ 3; omega) (rcv_v F_304.2.1 F_304.2.2 h), mkls_of F_304.1, J_304_0]
  rfl
theorem F_305 : (mT 305).2.2.1 = 5 ∧ (mwd 305).1 = 0 ∧ mcl 305 = 12 := by decide +kernel
theorem G_305 : cdl.getD 305 [] = cd_305 := rfl
theorem J_305_0 : jmp 305 0 = k_305_0 := by unfold jmp; rw [G_305]; rfl
theorem J_305_4 : jmp 305 4 = k_305_4 := by unfold jmp; rw [G_305]; rfl
theorem J_305_31 : jmp 305 31 = k_305_31 := by unfold jmp; rw [G_305]; rfl
theorem J_305_37 : jmp 305 37 = k_305_37 := by unfold jmp; rw [G_305]; rfl
theorem J_305_51 : jmp 305 51 = k_305_51 := by unfold jmp; rw [G_305]; rfl
theorem J_305_61 : jmp 305 61 = k_305_61 := by unfold jmp; rw [G_305]; rfl
theorem J_305_67 : jmp 305 67 = k_305_67 := by unfold jmp; rw [G_305]; rfl
/-- FewEndsModel.longest()I -/
theorem E_305 (h : knd Sh a = 12) : evc X 305 [vR (some a)] Sh M = ev X 305 k_305_0 [some (vR (some a)), none, none, none, none] [] Sh M := by
  rw [evc_go (by rw [F_305.1]; show 1 ≤ 5; omega) (rcv_v F_305.2.1 F_305.2.2 h), mkls_of F_305.1, J_305_0]
  rfl
theorem F_306 : (mT 306).2.2.1 = 2 ∧ (mwd 306).1 = 0 ∧ mcl 306 = 12 := by decide +kernel
theorem G_306 : cdl.getD 306 [] = cd_306 := rfl
theorem J_306_0 : jmp 306 0 = k_306_0 := by unfold jmp; rw [G_306]; rfl
theorem J_306_20 : jmp 306 20 = k_306_20 := by unfold jmp; rw [G_306]; rfl
theorem J_306_25 : jmp 306 25 = k_306_25 := by unfold jmp; rw [G_306]; rfl
/-- FewEndsModel.yarn(I)I -/
theorem E_306 {x1 : Int} (h : knd Sh a = 12) : evc X 306 [vR (some a), vI x1] Sh M = ev X 306 k_306_0 [some (vR (some a)), some (vI x1)] [] Sh M := by
  rw [evc_go (by rw [F_306.1]; show 2 ≤ 2; omega) (rcv_v F_306.2.1 F_306.2.2 h), mkls_of F_306.1, J_306_0]
  rfl
theorem F_307 : (mT 307).2.2.1 = 4 ∧ (mwd 307).1 = 0 ∧ mcl 307 = 12 := by decide +kernel
theorem G_307 : cdl.getD 307 [] = cd_307 := rfl
theorem J_307_0 : jmp 307 0 = k_307_0 := by unfold jmp; rw [G_307]; rfl
theorem J_307_4 : jmp 307 4 = k_307_4 := by unfold jmp; rw [G_307]; rfl
theorem J_307_40 : jmp 307 40 = k_307_40 := by unfold jmp; rw [G_307]; rfl
theorem J_307_41 : jmp 307 41 = k_307_41 := by unfold jmp; rw [G_307]; rfl
theorem J_307_49 : jmp 307 49 = k_307_49 := by unfold jmp; rw [G_307]; rfl
/-- FewEndsModel.yarnAll(I)I -/
theorem E_307 {x1 : Int} (h : knd Sh a = 12) : evc X 307 [vR (some a), vI x1] Sh M = ev X 307 k_307_0 [some (vR (some a)), some (vI x1), none, none] [] Sh M := by
  rw [evc_go (by rw [F_307.1]; show 2 ≤ 4; omega) (rcv_v F_307.2.1 F_307.2.2 h), mkls_of F_307.1, J_307_0]
  rfl
theorem F_308 : (mT 308).2.2.1 = 2 ∧ (mwd 308).1 = 0 ∧ mcl 308 = 12 := by decide +kernel
theorem G_308 : cdl.getD 308 [] = cd_308 := rfl
theorem J_308_0 : jmp 308 0 = k_308_0 := by unfold jmp; rw [G_308]; rfl
theorem J_308_16 : jmp 308 16 = k_308_16 := by unfold jmp; rw [G_308]; rfl
theorem J_308_36 : jmp 308 36 = k_308_36 := by unfold jmp; rw [G_308]; rfl
theorem J_308_41 : jmp 308 41 = k_308_41 := by unfold jmp; rw [G_308]; rfl
/-- FewEndsModel.least(I)I -/
theorem E_308 {x1 : Int} (h : knd Sh a = 12) : evc X 308 [vR (some a), vI x1] Sh M = ev X 308 k_308_0 [some (vR (some a)), some (vI x1)] [] Sh M := by
  rw [evc_go (by rw [F_308.1]; show 2 ≤ 2; omega) (rcv_v F_308.2.1 F_308.2.2 h), mkls_of F_308.1, J_308_0]
  rfl
theorem F_309 : (mT 309).2.2.1 = 3 ∧ (mwd 309).1 = 0 ∧ mcl 309 = 12 := by decide +kernel
theorem G_309 : cdl.getD 309 [] = cd_309 := rfl
theorem J_309_0 : jmp 309 0 = k_309_0 := by unfold jmp; rw [G_309]; rfl
theorem J_309_4 : jmp 309 4 = k_309_4 := by unfold jmp; rw [G_309]; rfl
theorem J_309_28 : jmp 309 28 = k_309_28 := by unfold jmp; rw [G_309]; rfl
/-- FewEndsModel.leastAll()I -/
theorem E_309 (h : knd Sh a = 12) : evc X 309 [vR (some a)] Sh M = ev X 309 k_309_0 [some (vR (some a)), none, none] [] Sh M := by
  rw [evc_go (by rw [F_309.1]; show 1 ≤ 3; omega) (rcv_v F_309.2.1 F_309.2.2 h), mkls_of F_309.1, J_309_0]
  rfl
theorem F_310 : (mT 310).2.2.1 = 5 ∧ (mwd 310).1 = 0 ∧ mcl 310 = 12 := by decide +kernel
theorem G_310 : cdl.getD 310 [] = cd_310 := rfl
theorem J_310_0 : jmp 310 0 = k_310_0 := by unfold jmp; rw [G_310]; rfl
theorem J_310_16 : jmp 310 16 = k_310_16 := by unfold jmp; rw [G_310]; rfl
theorem J_310_27 : jmp 310 27 = k_310_27 := by unfold jmp; rw [G_310]; rfl
theorem J_310_97 : jmp 310 97 = k_310_97 := by unfold jmp; rw [G_310]; rfl
theorem J_310_98 : jmp 310 98 = k_310_98 := by unfold jmp; rw [G_310]; rfl
theorem J_310_105 : jmp 310 105 = k_310_105 := by unfold jmp; rw [G_310]; rfl
theorem J_310_111 : jmp 310 111 = k_310_111 := by unfold jmp; rw [G_310]; rfl
/-- FewEndsModel.leastOf(I)I -/
theorem E_310 {x1 : Int} (h : knd Sh a = 12) : evc X 310 [vR (some a), vI x1] Sh M = ev X 310 k_310_0 [some (vR (some a)), some (vI x1), none, none, none] [] Sh M := by
  rw [evc_go (by rw [F_310.1]; show 2 ≤ 5; omega) (rcv_v F_310.2.1 F_310.2.2 h), mkls_of F_310.1, J_310_0]
  rfl
theorem F_311 : (mT 311).2.2.1 = 3 ∧ (mwd 311).1 = 0 ∧ mcl 311 = 12 := by decide +kernel
theorem G_311 : cdl.getD 311 [] = cd_311 := rfl
theorem J_311_0 : jmp 311 0 = k_311_0 := by unfold jmp; rw [G_311]; rfl
theorem J_311_7 : jmp 311 7 = k_311_7 := by unfold jmp; rw [G_311]; rfl
theorem J_311_28 : jmp 311 28 = k_311_28 := by unfold jmp; rw [G_311]; rfl
theorem J_311_48 : jmp 311 48 = k_311_48 := by unfold jmp; rw [G_311]; rfl
theorem J_311_54 : jmp 311 54 = k_311_54 := by unfold jmp; rw [G_311]; rfl
/-- FewEndsModel.gathers(I)V -/
theorem E_311 {x1 : Int} (h : knd Sh a = 12) : evc X 311 [vR (some a), vI x1] Sh M = ev X 311 k_311_0 [some (vR (some a)), some (vI x1), none] [] Sh M := by
  rw [evc_go (by rw [F_311.1]; show 2 ≤ 3; omega) (rcv_v F_311.2.1 F_311.2.2 h), mkls_of F_311.1, J_311_0]
  rfl
theorem F_312 : (mT 312).2.2.1 = 5 ∧ (mwd 312).1 = 0 ∧ mcl 312 = 12 := by decide +kernel
theorem G_312 : cdl.getD 312 [] = cd_312 := rfl
theorem J_312_0 : jmp 312 0 = k_312_0 := by unfold jmp; rw [G_312]; rfl
theorem J_312_2 : jmp 312 2 = k_312_2 := by unfold jmp; rw [G_312]; rfl
theorem J_312_27 : jmp 312 27 = k_312_27 := by unfold jmp; rw [G_312]; rfl
theorem J_312_29 : jmp 312 29 = k_312_29 := by unfold jmp; rw [G_312]; rfl
theorem J_312_47 : jmp 312 47 = k_312_47 := by unfold jmp; rw [G_312]; rfl
theorem J_312_49 : jmp 312 49 = k_312_49 := by unfold jmp; rw [G_312]; rfl
theorem J_312_66 : jmp 312 66 = k_312_66 := by unfold jmp; rw [G_312]; rfl
theorem J_312_71 : jmp 312 71 = k_312_71 := by unfold jmp; rw [G_312]; rfl
theorem J_312_92 : jmp 312 92 = k_312_92 := by unfold jmp; rw [G_312]; rfl
theorem J_312_114 : jmp 312 114 = k_312_114 := by unfold jmp; rw [G_312]; rfl
theorem J_312_122 : jmp 312 122 = k_312_122 := by unfold jmp; rw [G_312]; rfl
/-- FewEndsModel.gives0(II)I -/
theorem E_312 {x1 : Int} {x2 : Int} (h : knd Sh a = 12) : evc X 312 [vR (some a), vI x1, vI x2] Sh M = ev X 312 k_312_0 [some (vR (some a)), some (vI x1), some (vI x2), none, none] [] Sh M := by
  rw [evc_go (by rw [F_312.1]; show 3 ≤ 5; omega) (rcv_v F_312.2.1 F_312.2.2 h), mkls_of F_312.1, J_312_0]
  rfl
theorem F_313 : (mT 313).2.2.1 = 9 ∧ (mwd 313).1 = 0 ∧ mcl 313 = 12 := by decide +kernel
theorem G_313 : cdl.getD 313 [] = cd_313 := rfl
theorem J_313_0 : jmp 313 0 = k_313_0 := by unfold jmp; rw [G_313]; rfl
theorem J_313_12 : jmp 313 12 = k_313_12 := by unfold jmp; rw [G_313]; rfl
theorem J_313_42 : jmp 313 42 = k_313_42 := by unfold jmp; rw [G_313]; rfl
theorem J_313_77 : jmp 313 77 = k_313_77 := by unfold jmp; rw [G_313]; rfl
theorem J_313_96 : jmp 313 96 = k_313_96 := by unfold jmp; rw [G_313]; rfl
theorem J_313_160 : jmp 313 160 = k_313_160 := by unfold jmp; rw [G_313]; rfl
theorem J_313_185 : jmp 313 185 = k_313_185 := by unfold jmp; rw [G_313]; rfl
theorem J_313_191 : jmp 313 191 = k_313_191 := by unfold jmp; rw [G_313]; rfl
theorem J_313_194 : jmp 313 194 = k_313_194 := by unfold jmp; rw [G_313]; rfl
theorem J_313_242 : jmp 313 242 = k_313_242 := by unfold jmp; rw [G_313]; rfl
theorem J_313_254 : jmp 313 254 = k_313_254 := by unfold jmp; rw [G_313]; rfl
theorem J_313_260 : jmp 313 260 = k_313_260 := by unfold jmp; rw [G_313]; rfl
theorem J_313_266 : jmp 313 266 = k_313_266 := by unfold jmp; rw [G_313]; rfl
theorem J_313_297 : jmp 313 297 = k_313_297 := by unfold jmp; rw [G_313]; rfl
/-- FewEndsModel.givesOne(II)V -/
theorem E_313 {x1 : Int} {x2 : Int} (h : knd Sh a = 12) : evc X 313 [vR (some a), vI x1, vI x2] Sh M = ev X 313 k_313_0 [some (vR (some a)), some (vI x1), some (vI x2), none, none, none, none, none, none] [] Sh M := by
  rw [evc_go (by rw [F_313.1]; show 3 ≤ 9; omega) (rcv_v F_313.2.1 F_313.2.2 h), mkls_of F_313.1, J_313_0]
  rfl
theorem F_314 : (mT 314).2.2.1 = 4 ∧ (mwd 314).1 = 0 ∧ mcl 314 = 12 := by decide +kernel
theorem G_314 : cdl.getD 314 [] = cd_314 := rfl
theorem J_314_0 : jmp 314 0 = k_314_0 := by unfold jmp; rw [G_314]; rfl
theorem J_314_19 : jmp 314 19 = k_314_19 := by unfold jmp; rw [G_314]; rfl
theorem J_314_23 : jmp 314 23 = k_314_23 := by unfold jmp; rw [G_314]; rfl
theorem J_314_44 : jmp 314 44 = k_314_44 := by unfold jmp; rw [G_314]; rfl
theorem J_314_52 : jmp 314 52 = k_314_52 := by unfold jmp; rw [G_314]; rfl
theorem J_314_53 : jmp 314 53 = k_314_53 := by unfold jmp; rw [G_314]; rfl
theorem J_314_61 : jmp 314 61 = k_314_61 := by unfold jmp; rw [G_314]; rfl
/-- FewEndsModel.fewest(I)I -/
theorem E_314 {x1 : Int} (h : knd Sh a = 12) : evc X 314 [vR (some a), vI x1] Sh M = ev X 314 k_314_0 [some (vR (some a)), some (vI x1), none, none] [] Sh M := by
  rw [evc_go (by rw [F_314.1]; show 2 ≤ 4; omega) (rcv_v F_314.2.1 F_314.2.2 h), mkls_of F_314.1, J_314_0]
  rfl
theorem F_315 : (mT 315).2.2.1 = 4 ∧ (mwd 315).1 = 0 ∧ mcl 315 = 12 := by decide +kernel
theorem G_315 : cdl.getD 315 [] = cd_315 := rfl
theorem J_315_0 : jmp 315 0 = k_315_0 := by unfold jmp; rw [G_315]; rfl
theorem J_315_7 : jmp 315 7 = k_315_7 := by unfold jmp; rw [G_315]; rfl
theorem J_315_17 : jmp 315 17 = k_315_17 := by unfold jmp; rw [G_315]; rfl
theorem J_315_63 : jmp 315 63 = k_315_63 := by unfold jmp; rw [G_315]; rfl
theorem J_315_64 : jmp 315 64 = k_315_64 := by unfold jmp; rw [G_315]; rfl
theorem J_315_71 : jmp 315 71 = k_315_71 := by unfold jmp; rw [G_315]; rfl
theorem J_315_77 : jmp 315 77 = k_315_77 := by unfold jmp; rw [G_315]; rfl
/-- FewEndsModel.fewestOf(I)I -/
theorem E_315 {x1 : Int} (h : knd Sh a = 12) : evc X 315 [vR (some a), vI x1] Sh M = ev X 315 k_315_0 [some (vR (some a)), some (vI x1), none, none] [] Sh M := by
  rw [evc_go (by rw [F_315.1]; show 2 ≤ 4; omega) (rcv_v F_315.2.1 F_315.2.2 h), mkls_of F_315.1, J_315_0]
  rfl
theorem F_316 : (mT 316).2.2.1 = 1 ∧ (mwd 316).1 = 0 ∧ mcl 316 = 12 := by decide +kernel
theorem G_316 : cdl.getD 316 [] = cd_316 := rfl
theorem J_316_0 : jmp 316 0 = k_316_0 := by unfold jmp; rw [G_316]; rfl
/-- FewEndsModel.gap()I -/
theorem E_316 (h : knd Sh a = 12) : evc X 316 [vR (some a)] Sh M = ev X 316 k_316_0 [some (vR (some a))] [] Sh M := by
  rw [evc_go (by rw [F_316.1]; show 1 ≤ 1; omega) (rcv_v F_316.2.1 F_316.2.2 h), mkls_of F_316.1, J_316_0]
  rfl
theorem F_317 : (mT 317).2.2.1 = 2 ∧ (mwd 317).1 = 0 ∧ mcl 317 = 12 := by decide +kernel
theorem G_317 : cdl.getD 317 [] = cd_317 := rfl
theorem J_317_0 : jmp 317 0 = k_317_0 := by unfold jmp; rw [G_317]; rfl
theorem J_317_18 : jmp 317 18 = k_317_18 := by unfold jmp; rw [G_317]; rfl
theorem J_317_29 : jmp 317 29 = k_317_29 := by unfold jmp; rw [G_317]; rfl
/-- FewEndsModel.worth()Z -/
theorem E_317 (h : knd Sh a = 12) : evc X 317 [vR (some a)] Sh M = ev X 317 k_317_0 [some (vR (some a)), none] [] Sh M := by
  rw [evc_go (by rw [F_317.1]; show 1 ≤ 2; omega) (rcv_v F_317.2.1 F_317.2.2 h), mkls_of F_317.1, J_317_0]
  rfl
theorem F_318 : (mT 318).2.2.1 = 11 ∧ (mwd 318).1 = 0 ∧ mcl 318 = 12 := by decide +kernel
theorem G_318 : cdl.getD 318 [] = cd_318 := rfl
theorem J_318_0 : jmp 318 0 = k_318_0 := by unfold jmp; rw [G_318]; rfl
theorem J_318_6 : jmp 318 6 = k_318_6 := by unfold jmp; rw [G_318]; rfl
theorem J_318_31 : jmp 318 31 = k_318_31 := by unfold jmp; rw [G_318]; rfl
/-- FewEndsModel.tellsBy(JJ)Z -/
theorem E_318 {x1 : Int} {x2 : Int} (h : knd Sh a = 12) : evc X 318 [vR (some a), vL x1, vL x2] Sh M = ev X 318 k_318_0 [some (vR (some a)), some (vL x1), none, some (vL x2), none, none, none, none, none, none, none] [] Sh M := by
  rw [evc_go (by rw [F_318.1]; show 5 ≤ 11; omega) (rcv_v F_318.2.1 F_318.2.2 h), mkls_of F_318.1, J_318_0]
  rfl
theorem F_319 : (mT 319).2.2.1 = 8 ∧ (mwd 319).1 = 0 ∧ mcl 319 = 12 := by decide +kernel
theorem G_319 : cdl.getD 319 [] = cd_319 := rfl
theorem J_319_0 : jmp 319 0 = k_319_0 := by unfold jmp; rw [G_319]; rfl
theorem J_319_14 : jmp 319 14 = k_319_14 := by unfold jmp; rw [G_319]; rfl
theorem J_319_49 : jmp 319 49 = k_319_49 := by unfold jmp; rw [G_319]; rfl
theorem J_319_81 : jmp 319 81 = k_319_81 := by unfold jmp; rw [G_319]; rfl
theorem J_319_84 : jmp 319 84 = k_319_84 := by unfold jmp; rw [G_319]; rfl
theorem J_319_146 : jmp 319 146 = k_319_146 := by unfold jmp; rw [G_319]; rfl
theorem J_319_147 : jmp 319 147 = k_319_147 := by unfold jmp; rw [G_319]; rfl
theorem J_319_154 : jmp 319 154 = k_319_154 := by unfold jmp; rw [G_319]; rfl
theorem J_319_157 : jmp 319 157 = k_319_157 := by unfold jmp; rw [G_319]; rfl
theorem J_319_163 : jmp 319 163 = k_319_163 := by unfold jmp; rw [G_319]; rfl
theorem J_319_166 : jmp 319 166 = k_319_166 := by unfold jmp; rw [G_319]; rfl
theorem J_319_180 : jmp 319 180 = k_319_180 := by unfold jmp; rw [G_319]; rfl
theorem J_319_214 : jmp 319 214 = k_319_214 := by unfold jmp; rw [G_319]; rfl
theorem J_319_220 : jmp 319 220 = k_319_220 := by unfold jmp; rw [G_319]; rfl
/-- FewEndsModel.rowAlone(I)I -/
theorem E_319 {x1 : Int} (h : knd Sh a = 12) : evc X 319 [vR (some a), vI x1] Sh M = ev X 319 k_319_0 [some (vR (some a)), some (vI x1), none, none, none, none, none, none] [] Sh M := by
  rw [evc_go (by rw [F_319.1]; show 2 ≤ 8; omega) (rcv_v F_319.2.1 F_319.2.2 h), mkls_of F_319.1, J_319_0]
  rfl
theorem F_320 : (mT 320).2.2.1 = 3 ∧ (mwd 320).1 = 0 ∧ mcl 320 = 12 := by decide +kernel
theorem G_320 : cdl.getD 320 [] = cd_320 := rfl
theorem J_320_0 : jmp 320 0 = k_320_0 := by unfold jmp; rw [G_320]; rfl
theorem J_320_30 : jmp 320 30 = k_320_30 := by unfold jmp; rw [G_320]; rfl
theorem J_320_34 : jmp 320 34 = k_320_34 := by unfold jmp; rw [G_320]; rfl
theorem J_320_35 : jmp 320 35 = k_320_35 := by unfold jmp; rw [G_320]; rfl
/-- FewEndsModel.endsAhead(II)Z -/
theorem E_320 {x1 : Int} {x2 : Int} (h : knd Sh a = 12) : evc X 320 [vR (some a), vI x1, vI x2] Sh M = ev X 320 k_320_0 [some (vR (some a)), some (vI x1), some (vI x2)] [] Sh M := by
  rw [evc_go (by rw [F_320.1]; show 3 ≤ 3; omega) (rcv_v F_320.2.1 F_320.2.2 h), mkls_of F_320.1, J_320_0]
  rfl
theorem F_321 : (mT 321).2.2.1 = 2 ∧ (mwd 321).1 = 0 ∧ mcl 321 = 12 := by decide +kernel
theorem G_321 : cdl.getD 321 [] = cd_321 := rfl
theorem J_321_0 : jmp 321 0 = k_321_0 := by unfold jmp; rw [G_321]; rfl
/-- FewEndsModel.other()I -/
theorem E_321 (h : knd Sh a = 12) : evc X 321 [vR (some a)] Sh M = ev X 321 k_321_0 [some (vR (some a)), none] [] Sh M := by
  rw [evc_go (by rw [F_321.1]; show 1 ≤ 2; omega) (rcv_v F_321.2.1 F_321.2.2 h), mkls_of F_321.1, J_321_0]
  rfl
theorem F_322 : (mT 322).2.2.1 = 3 ∧ (mwd 322).1 = 0 ∧ mcl 322 = 12 := by decide +kernel
theorem G_322 : cdl.getD 322 [] = cd_322 := rfl
theorem J_322_0 : jmp 322 0 = k_322_0 := by unfold jmp; rw [G_322]; rfl
theorem J_322_27 : jmp 322 27 = k_322_27 := by unfold jmp; rw [G_322]; rfl
theorem J_322_33 : jmp 322 33 = k_322_33 := by unfold jmp; rw [G_322]; rfl
/-- FewEndsModel.saves(II)I -/
theorem E_322 {x1 : Int} {x2 : Int} (h : knd Sh a = 12) : evc X 322 [vR (some a), vI x1, vI x2] Sh M = ev X 322 k_322_0 [some (vR (some a)), some (vI x1), some (vI x2)] [] Sh M := by
  rw [evc_go (by rw [F_322.1]; show 3 ≤ 3; omega) (rcv_v F_322.2.1 F_322.2.2 h), mkls_of F_322.1, J_322_0]
  rfl
theorem F_323 : (mT 323).2.2.1 = 6 ∧ (mwd 323).1 = 0 ∧ mcl 323 = 12 := by decide +kernel
theorem G_323 : cdl.getD 323 [] = cd_323 := rfl
theorem J_323_0 : jmp 323 0 = k_323_0 := by unfold jmp; rw [G_323]; rfl
/-- FewEndsModel.savesBy(III)I -/
theorem E_323 {x1 : Int} {x2 : Int} {x3 : Int} (h : knd Sh a = 12) : evc X 323 [vR (some a), vI x1, vI x2, vI x3] Sh M = ev X 323 k_323_0 [some (vR (some a)), some (vI x1), some (vI x2), some (vI x3), none, none] [] Sh M := by
  rw [evc_go (by rw [F_323.1]; show 4 ≤ 6; omega) (rcv_v F_323.2.1 F_323.2.2 h), mkls_of F_323.1, J_323_0]
  rfl
theorem F_324 : (mT 324).2.2.1 = 2 ∧ (mwd 324).1 = 0 ∧ mcl 324 = 12 := by decide +kernel
theorem G_324 : cdl.getD 324 [] = cd_324 := rfl
theorem J_324_0 : jmp 324 0 = k_324_0 := by unfold jmp; rw [G_324]; rfl
theorem J_324_9 : jmp 324 9 = k_324_9 := by unfold jmp; rw [G_324]; rfl
theorem J_324_15 : jmp 324 15 = k_324_15 := by unfold jmp; rw [G_324]; rfl
theorem J_324_29 : jmp 324 29 = k_324_29 := by unfold jmp; rw [G_324]; rfl
theorem J_324_41 : jmp 324 41 = k_324_41 := by unfold jmp; rw [G_324]; rfl
theorem J_324_53 : jmp 324 53 = k_324_53 := by unfold jmp; rw [G_324]; rfl
theorem J_324_57 : jmp 324 57 = k_324_57 := by unfold jmp; rw [G_324]; rfl
/-- FewEndsModel.best(I)I -/
theorem E_324 {x1 : Int} (h : knd Sh a = 12) : evc X 324 [vR (some a), vI x1] Sh M = ev X 324 k_324_0 [some (vR (some a)), some (vI x1)] [] Sh M := by
  rw [evc_go (by rw [F_324.1]; show 2 ≤ 2; omega) (rcv_v F_324.2.1 F_324.2.2 h), mkls_of F_324.1, J_324_0]
  rfl
theorem F_325 : (mT 325).2.2.1 = 5 ∧ (mwd 325).1 = 0 ∧ mcl 325 = 12 := by decide +kernel
theorem G_325 : cdl.getD 325 [] = cd_325 := rfl
theorem J_325_0 : jmp 325 0 = k_325_0 := by unfold jmp; rw [G_325]; rfl
theorem J_325_12 : jmp 325 12 = k_325_12 := by unfold jmp; rw [G_325]; rfl
theorem J_325_22 : jmp 325 22 = k_325_22 := by unfold jmp; rw [G_325]; rfl
theorem J_325_45 : jmp 325 45 = k_325_45 := by unfold jmp; rw [G_325]; rfl
theorem J_325_74 : jmp 325 74 = k_325_74 := by unfold jmp; rw [G_325]; rfl
theorem J_325_90 : jmp 325 90 = k_325_90 := by unfold jmp; rw [G_325]; rfl
theorem J_325_96 : jmp 325 96 = k_325_96 := by unfold jmp; rw [G_325]; rfl
theorem J_325_102 : jmp 325 102 = k_325_102 := by unfold jmp; rw [G_325]; rfl
theorem J_325_114 : jmp 325 114 = k_325_114 := by unfold jmp; rw [G_325]; rfl
theorem J_325_115 : jmp 325 115 = k_325_115 := by unfold jmp; rw [G_325]; rfl
/-- FewEndsModel.seeksBest()Z -/
theorem E_325 (h : knd Sh a = 12) : evc X 325 [vR (some a)] Sh M = ev X 325 k_325_0 [some (vR (some a)), none, none, none, none] [] Sh M := by
  rw [evc_go (by rw [F_325.1]; show 1 ≤ 5; omega) (rcv_v F_325.2.1 F_325.2.2 h), mkls_of F_325.1, J_325_0]
  rfl
theorem F_326 : (mT 326).2.2.1 = 2 ∧ (mwd 326).1 = 0 ∧ mcl 326 = 12 := by decide +kernel
theorem G_326 : cdl.getD 326 [] = cd_326 := rfl
theorem J_326_0 : jmp 326 0 = k_326_0 := by unfold jmp; rw [G_326]; rfl
theorem J_326_18 : jmp 326 18 = k_326_18 := by unfold jmp; rw [G_326]; rfl
theorem J_326_23 : jmp 326 23 = k_326_23 := by unfold jmp; rw [G_326]; rfl
theorem J_326_120 : jmp 326 120 = k_326_120 := by unfold jmp; rw [G_326]; rfl
/-- FewEndsModel.few(I)I -/
theorem E_326 {x1 : Int} (h : knd Sh a = 12) : evc X 326 [vR (some a), vI x1] Sh M = ev X 326 k_326_0 [some (vR (some a)), some (vI x1)] [] Sh M := by
  rw [evc_go (by rw [F_326.1]; show 2 ≤ 2; omega) (rcv_v F_326.2.1 F_326.2.2 h), mkls_of F_326.1, J_326_0]
  rfl
theorem F_327 : (mT 327).2.2.1 = 6 ∧ (mwd 327).1 = 1 ∧ mcl 327 = 12 := by decide +kernel
theorem G_327 : cdl.getD 327 [] = cd_327 := rfl
theorem J_327_0 : jmp 327 0 = k_327_0 := by unfold jmp; rw [G_327]; rfl
theorem J_327_17 : jmp 327 17 = k_327_17 := by unfold jmp; rw [G_327]; rfl
theorem J_327_18 : jmp 327 18 = k_327_18 := by unfold jmp; rw [G_327]; rfl
/-- FewEndsModel.isFrom(JJJ)Z -/
theorem E_327 {x1 : Int} {x2 : Int} {x3 : Int} : evc X 327 [vL x1, vL x2, vL x3] Sh M = ev X 327 k_327_0 [some (vL x1), none, some (vL x2), none, some (vL x3), none] [] Sh M := by
  rw [evc_go (by rw [F_327.1]; show 6 ≤ 6; omega) (rcv_s F_327.2.1), mkls_of F_327.1, J_327_0]
  rfl
theorem F_328 : (mT 328).2.2.1 = 3 ∧ (mwd 328).1 = 0 ∧ mcl 328 = 12 := by decide +kernel
theorem G_328 : cdl.getD 328 [] = cd_328 := rfl
theorem J_328_0 : jmp 328 0 = k_328_0 := by unfold jmp; rw [G_328]; rfl
theorem J_328_9 : jmp 328 9 = k_328_9 := by unfold jmp; rw [G_328]; rfl
theorem J_328_17 : jmp 328 17 = k_328_17 := by unfold jmp; rw [G_328]; rfl
theorem J_328_29 : jmp 328 29 = k_328_29 := by unfold jmp; rw [G_328]; rfl
theorem J_328_38 : jmp 328 38 = k_328_38 := by unfold jmp; rw [G_328]; rfl
theorem J_328_52 : jmp 328 52 = k_328_52 := by unfold jmp; rw [G_328]; rfl
/-- FewEndsModel.fewAt(II)I -/
theorem E_328 {x1 : Int} {x2 : Int} (h : knd Sh a = 12) : evc X 328 [vR (some a), vI x1, vI x2] Sh M = ev X 328 k_328_0 [some (vR (some a)), some (vI x1), some (vI x2)] [] Sh M := by
  rw [evc_go (by rw [F_328.1]; show 3 ≤ 3; omega) (rcv_v F_328.2.1 F_328.2.2 h), mkls_of F_328.1, J_328_0]
  rfl
theorem F_329 : (mT 329).2.2.1 = 1 ∧ (mwd 329).1 = 0 ∧ mcl 329 = 12 := by decide +kernel
theorem G_329 : cdl.getD 329 [] = cd_329 := rfl
theorem J_329_0 : jmp 329 0 = k_329_0 := by unfold jmp; rw [G_329]; rfl
theorem J_329_18 : jmp 329 18 = k_329_18 := by unfold jmp; rw [G_329]; rfl
theorem J_329_24 : jmp 329 24 = k_329_24 := by unfold jmp; rw [G_329]; rfl
/-- FewEndsModel.sewn()I -/
theorem E_329 (h : knd Sh a = 12) : evc X 329 [vR (some a)] Sh M = ev X 329 k_329_0 [some (vR (some a))] [] Sh M := by
  rw [evc_go (by rw [F_329.1]; show 1 ≤ 1; omega) (rcv_v F_329.2.1 F_329.2.2 h), mkls_of F_329.1, J_329_0]
  rfl
theorem F_330 : (mT 330).2.2.1 = 4 ∧ (mwd 330).1 = 0 ∧ mcl 330 = 12 := by decide +kernel
theorem G_330 : cdl.getD 330 [] = cd_330 := rfl
theorem J_330_0 : jmp 330 0 = k_330_0 := by unfold jmp; rw [G_330]; rfl
theorem J_330_7 : jmp 330 7 = k_330_7 := by unfold jmp; rw [G_330]; rfl
theorem J_330_23 : jmp 330 23 = k_330_23 := by unfold jmp; rw [G_330]; rfl
theorem J_330_47 : jmp 330 47 = k_330_47 := by unfold jmp; rw [G_330]; rfl
theorem J_330_64 : jmp 330 64 = k_330_64 := by unfold jmp; rw [G_330]; rfl
theorem J_330_70 : jmp 330 70 = k_330_70 := by unfold jmp; rw [G_330]; rfl
theorem J_330_100 : jmp 330 100 = k_330_100 := by unfold jmp; rw [G_330]; rfl
theorem J_330_110 : jmp 330 110 = k_330_110 := by unfold jmp; rw [G_330]; rfl
theorem J_330_116 : jmp 330 116 = k_330_116 := by unfold jmp; rw [G_330]; rfl
theorem J_330_129 : jmp 330 129 = k_330_129 := by unfold jmp; rw [G_330]; rfl
theorem J_330_130 : jmp 330 130 = k_330_130 := by unfold jmp; rw [G_330]; rfl
/-- FewEndsModel.sews()Z -/
theorem E_330 (h : knd Sh a = 12) : evc X 330 [vR (some a)] Sh M = ev X 330 k_330_0 [some (vR (some a)), none, none, none] [] Sh M := by
  rw [evc_go (by rw [F_330.1]; show 1 ≤ 4; omega) (rcv_v F_330.2.1 F_330.2.2 h), mkls_of F_330.1, J_330_0]
  rfl
theorem F_331 : (mT 331).2.2.1 = 1 ∧ (mwd 331).1 = 0 ∧ mcl 331 = 12 := by decide +kernel
theorem G_331 : cdl.getD 331 [] = cd_331 := rfl
theorem J_331_0 : jmp 331 0 = k_331_0 := by unfold jmp; rw [G_331]; rfl
theorem J_331_18 : jmp 331 18 = k_331_18 := by unfold jmp; rw [G_331]; rfl
theorem J_331_24 : jmp 331 24 = k_331_24 := by unfold jmp; rw [G_331]; rfl
/-- FewEndsModel.sewnCost()I -/
theorem E_331 (h : knd Sh a = 12) : evc X 331 [vR (some a)] Sh M = ev X 331 k_331_0 [some (vR (some a))] [] Sh M := by
  rw [evc_go (by rw [F_331.1]; show 1 ≤ 1; omega) (rcv_v F_331.2.1 F_331.2.2 h), mkls_of F_331.1, J_331_0]
  rfl
theorem F_332 : (mT 332).2.2.1 = 4 ∧ (mwd 332).1 = 0 ∧ mcl 332 = 12 := by decide +kernel
theorem G_332 : cdl.getD 332 [] = cd_332 := rfl
theorem J_332_0 : jmp 332 0 = k_332_0 := by unfold jmp; rw [G_332]; rfl
theorem J_332_19 : jmp 332 19 = k_332_19 := by unfold jmp; rw [G_332]; rfl
theorem J_332_27 : jmp 332 27 = k_332_27 := by unfold jmp; rw [G_332]; rfl
theorem J_332_64 : jmp 332 64 = k_332_64 := by unfold jmp; rw [G_332]; rfl
theorem J_332_68 : jmp 332 68 = k_332_68 := by unfold jmp; rw [G_332]; rfl
theorem J_332_69 : jmp 332 69 = k_332_69 := by unfold jmp; rw [G_332]; rfl
theorem J_332_77 : jmp 332 77 = k_332_77 := by unfold jmp; rw [G_332]; rfl
/-- FewEndsModel.patches(I)I -/
theorem E_332 {x1 : Int} (h : knd Sh a = 12) : evc X 332 [vR (some a), vI x1] Sh M = ev X 332 k_332_0 [some (vR (some a)), some (vI x1), none, none] [] Sh M := by
  rw [evc_go (by rw [F_332.1]; show 2 ≤ 4; omega) (rcv_v F_332.2.1 F_332.2.2 h), mkls_of F_332.1, J_332_0]
  rfl
theorem F_333 : (mT 333).2.2.1 = 5 ∧ (mwd 333).1 = 0 ∧ mcl 333 = 12 := by decide +kernel
theorem G_333 : cdl.getD 333 [] = cd_333 := rfl
theorem J_333_0 : jmp 333 0 = k_333_0 := by unfold jmp; rw [G_333]; rfl
theorem J_333_9 : jmp 333 9 = k_333_9 := by unfold jmp; rw [G_333]; rfl
theorem J_333_30 : jmp 333 30 = k_333_30 := by unfold jmp; rw [G_333]; rfl
theorem J_333_32 : jmp 333 32 = k_333_32 := by unfold jmp; rw [G_333]; rfl
theorem J_333_40 : jmp 333 40 = k_333_40 := by unfold jmp; rw [G_333]; rfl
theorem J_333_61 : jmp 333 61 = k_333_61 := by unfold jmp; rw [G_333]; rfl
theorem J_333_62 : jmp 333 62 = k_333_62 := by unfold jmp; rw [G_333]; rfl
theorem J_333_84 : jmp 333 84 = k_333_84 := by unfold jmp; rw [G_333]; rfl
theorem J_333_88 : jmp 333 88 = k_333_88 := by unfold jmp; rw [G_333]; rfl
theorem J_333_89 : jmp 333 89 = k_333_89 := by unfold jmp; rw [G_333]; rfl
theorem J_333_90 : jmp 333 90 = k_333_90 := by unfold jmp; rw [G_333]; rfl
theorem J_333_123 : jmp 333 123 = k_333_123 := by unfold jmp; rw [G_333]; rfl
theorem J_333_127 : jmp 333 127 = k_333_127 := by unfold jmp; rw [G_333]; rfl
theorem J_333_128 : jmp 333 128 = k_333_128 := by unfold jmp; rw [G_333]; rfl
theorem J_333_129 : jmp 333 129 = k_333_129 := by unfold jmp; rw [G_333]; rfl
theorem J_333_154 : jmp 333 154 = k_333_154 := by unfold jmp; rw [G_333]; rfl
theorem J_333_158 : jmp 333 158 = k_333_158 := by unfold jmp; rw [G_333]; rfl
theorem J_333_159 : jmp 333 159 = k_333_159 := by unfold jmp; rw [G_333]; rfl
theorem J_333_160 : jmp 333 160 = k_333_160 := by unfold jmp; rw [G_333]; rfl
theorem J_333_166 : jmp 333 166 = k_333_166 := by unfold jmp; rw [G_333]; rfl
theorem J_333_169 : jmp 333 169 = k_333_169 := by unfold jmp; rw [G_333]; rfl
/-- FewEndsModel.spreads()V -/
theorem E_333 (h : knd Sh a = 12) : evc X 333 [vR (some a)] Sh M = ev X 333 k_333_0 [some (vR (some a)), none, none, none, none] [] Sh M := by
  rw [evc_go (by rw [F_333.1]; show 1 ≤ 5; omega) (rcv_v F_333.2.1 F_333.2.2 h), mkls_of F_333.1, J_333_0]
  rfl
theorem F_334 : (mT 334).2.2.1 = 5 ∧ (mwd 334).1 = 0 ∧ mcl 334 = 12 := by decide +kernel
theorem G_334 : cdl.getD 334 [] = cd_334 := rfl
theorem J_334_0 : jmp 334 0 = k_334_0 := by unfold jmp; rw [G_334]; rfl
theorem J_334_23 : jmp 334 23 = k_334_23 := by unfold jmp; rw [G_334]; rfl
theorem J_334_58 : jmp 334 58 = k_334_58 := by unfold jmp; rw [G_334]; rfl
theorem J_334_59 : jmp 334 59 = k_334_59 := by unfold jmp; rw [G_334]; rfl
/-- FewEndsModel.joins(II)Z -/
theorem E_334 {x1 : Int} {x2 : Int} (h : knd Sh a = 12) : evc X 334 [vR (some a), vI x1, vI x2] Sh M = ev X 334 k_334_0 [some (vR (some a)), some (vI x1), some (vI x2), none, none] [] Sh M := by
  rw [evc_go (by rw [F_334.1]; show 3 ≤ 5; omega) (rcv_v F_334.2.1 F_334.2.2 h), mkls_of F_334.1, J_334_0]
  rfl
theorem F_335 : (mT 335).2.2.1 = 9 ∧ (mwd 335).1 = 0 ∧ mcl 335 = 12 := by decide +kernel
theorem G_335 : cdl.getD 335 [] = cd_335 := rfl
theorem J_335_0 : jmp 335 0 = k_335_0 := by unfold jmp; rw [G_335]; rfl
theorem J_335_18 : jmp 335 18 = k_335_18 := by unfold jmp; rw [G_335]; rfl
theorem J_335_24 : jmp 335 24 = k_335_24 := by unfold jmp; rw [G_335]; rfl
theorem J_335_52 : jmp 335 52 = k_335_52 := by unfold jmp; rw [G_335]; rfl
theorem J_335_80 : jmp 335 80 = k_335_80 := by unfold jmp; rw [G_335]; rfl
theorem J_335_91 : jmp 335 91 = k_335_91 := by unfold jmp; rw [G_335]; rfl
theorem J_335_93 : jmp 335 93 = k_335_93 := by unfold jmp; rw [G_335]; rfl
theorem J_335_111 : jmp 335 111 = k_335_111 := by unfold jmp; rw [G_335]; rfl
theorem J_335_117 : jmp 335 117 = k_335_117 := by unfold jmp; rw [G_335]; rfl
theorem J_335_123 : jmp 335 123 = k_335_123 := by unfold jmp; rw [G_335]; rfl
theorem J_335_152 : jmp 335 152 = k_335_152 := by unfold jmp; rw [G_335]; rfl
theorem J_335_162 : jmp 335 162 = k_335_162 := by unfold jmp; rw [G_335]; rfl
theorem J_335_172 : jmp 335 172 = k_335_172 := by unfold jmp; rw [G_335]; rfl
theorem J_335_174 : jmp 335 174 = k_335_174 := by unfold jmp; rw [G_335]; rfl
/-- FewEndsModel.patch(II)I -/
theorem E_335 {x1 : Int} {x2 : Int} (h : knd Sh a = 12) : evc X 335 [vR (some a), vI x1, vI x2] Sh M = ev X 335 k_335_0 [some (vR (some a)), some (vI x1), some (vI x2), none, none, none, none, none, none] [] Sh M := by
  rw [evc_go (by rw [F_335.1]; show 3 ≤ 9; omega) (rcv_v F_335.2.1 F_335.2.2 h), mkls_of F_335.1, J_335_0]
  rfl
theorem F_336 : (mT 336).2.2.1 = 4 ∧ (mwd 336).1 = 0 ∧ mcl 336 = 12 := by decide +kernel
theorem G_336 : cdl.getD 336 [] = cd_336 := rfl
theorem J_336_0 : jmp 336 0 = k_336_0 := by unfold jmp; rw [G_336]; rfl
theorem J_336_18 : jmp 336 18 = k_336_18 := by unfold jmp; rw [G_336]; rfl
theorem J_336_22 : jmp 336 22 = k_336_22 := by unfold jmp; rw [G_336]; rfl
theorem J_336_46 : jmp 336 46 = k_336_46 := by unfold jmp; rw [G_336]; rfl
theorem J_336_47 : jmp 336 47 = k_336_47 := by unfold jmp; rw [G_336]; rfl
theorem J_336_55 : jmp 336 55 = k_336_55 := by unfold jmp; rw [G_336]; rfl
/-- FewEndsModel.machine(I)I -/
theorem E_336 {x1 : Int} (h : knd Sh a = 12) : evc X 336 [vR (some a), vI x1] Sh M = ev X 336 k_336_0 [some (vR (some a)), some (vI x1), none, none] [] Sh M := by
  rw [evc_go (by rw [F_336.1]; show 2 ≤ 4; omega) (rcv_v F_336.2.1 F_336.2.2 h), mkls_of F_336.1, J_336_0]
  rfl
theorem F_337 : (mT 337).2.2.1 = 4 ∧ (mwd 337).1 = 0 ∧ mcl 337 = 12 := by decide +kernel
theorem G_337 : cdl.getD 337 [] = cd_337 := rfl
theorem J_337_0 : jmp 337 0 = k_337_0 := by unfold jmp; rw [G_337]; rfl
theorem J_337_2 : jmp 337 2 = k_337_2 := by unfold jmp; rw [G_337]; rfl
theorem J_337_20 : jmp 337 20 = k_337_20 := by unfold jmp; rw [G_337]; rfl
theorem J_337_22 : jmp 337 22 = k_337_22 := by unfold jmp; rw [G_337]; rfl
theorem J_337_65 : jmp 337 65 = k_337_65 := by unfold jmp; rw [G_337]; rfl
theorem J_337_69 : jmp 337 69 = k_337_69 := by unfold jmp; rw [G_337]; rfl
theorem J_337_88 : jmp 337 88 = k_337_88 := by unfold jmp; rw [G_337]; rfl
theorem J_337_89 : jmp 337 89 = k_337_89 := by unfold jmp; rw [G_337]; rfl
theorem J_337_97 : jmp 337 97 = k_337_97 := by unfold jmp; rw [G_337]; rfl
/-- FewEndsModel.coloursOf(I)I -/
theorem E_337 {x1 : Int} (h : knd Sh a = 12) : evc X 337 [vR (some a), vI x1] Sh M = ev X 337 k_337_0 [some (vR (some a)), some (vI x1), none, none] [] Sh M := by
  rw [evc_go (by rw [F_337.1]; show 2 ≤ 4; omega) (rcv_v F_337.2.1 F_337.2.2 h), mkls_of F_337.1, J_337_0]
  rfl
theorem F_338 : (mT 338).2.2.1 = 7 ∧ (mwd 338).1 = 0 ∧ mcl 338 = 12 := by decide +kernel
theorem G_338 : cdl.getD 338 [] = cd_338 := rfl
theorem J_338_0 : jmp 338 0 = k_338_0 := by unfold jmp; rw [G_338]; rfl
theorem J_338_20 : jmp 338 20 = k_338_20 := by unfold jmp; rw [G_338]; rfl
theorem J_338_26 : jmp 338 26 = k_338_26 := by unfold jmp; rw [G_338]; rfl
theorem J_338_35 : jmp 338 35 = k_338_35 := by unfold jmp; rw [G_338]; rfl
theorem J_338_47 : jmp 338 47 = k_338_47 := by unfold jmp; rw [G_338]; rfl
theorem J_338_86 : jmp 338 86 = k_338_86 := by unfold jmp; rw [G_338]; rfl
theorem J_338_90 : jmp 338 90 = k_338_90 := by unfold jmp; rw [G_338]; rfl
theorem J_338_96 : jmp 338 96 = k_338_96 := by unfold jmp; rw [G_338]; rfl
theorem J_338_120 : jmp 338 120 = k_338_120 := by unfold jmp; rw [G_338]; rfl
/-- FewEndsModel.lessened(II)I -/
theorem E_338 {x1 : Int} {x2 : Int} (h : knd Sh a = 12) : evc X 338 [vR (some a), vI x1, vI x2] Sh M = ev X 338 k_338_0 [some (vR (some a)), some (vI x1), some (vI x2), none, none, none, none] [] Sh M := by
  rw [evc_go (by rw [F_338.1]; show 3 ≤ 7; omega) (rcv_v F_338.2.1 F_338.2.2 h), mkls_of F_338.1, J_338_0]
  rfl
theorem F_339 : (mT 339).2.2.1 = 2 ∧ (mwd 339).1 = 0 ∧ mcl 339 = 12 := by decide +kernel
theorem G_339 : cdl.getD 339 [] = cd_339 := rfl
theorem J_339_0 : jmp 339 0 = k_339_0 := by unfold jmp; rw [G_339]; rfl
theorem J_339_21 : jmp 339 21 = k_339_21 := by unfold jmp; rw [G_339]; rfl
theorem J_339_26 : jmp 339 26 = k_339_26 := by unfold jmp; rw [G_339]; rfl
/-- FewEndsModel.behind(I)I -/
theorem E_339 {x1 : Int} (h : knd Sh a = 12) : evc X 339 [vR (some a), vI x1] Sh M = ev X 339 k_339_0 [some (vR (some a)), some (vI x1)] [] Sh M := by
  rw [evc_go (by rw [F_339.1]; show 2 ≤ 2; omega) (rcv_v F_339.2.1 F_339.2.2 h), mkls_of F_339.1, J_339_0]
  rfl
theorem F_340 : (mT 340).2.2.1 = 6 ∧ (mwd 340).1 = 0 ∧ mcl 340 = 12 := by decide +kernel
theorem G_340 : cdl.getD 340 [] = cd_340 := rfl
theorem J_340_0 : jmp 340 0 = k_340_0 := by unfold jmp; rw [G_340]; rfl
theorem J_340_4 : jmp 340 4 = k_340_4 := by unfold jmp; rw [G_340]; rfl
theorem J_340_36 : jmp 340 36 = k_340_36 := by unfold jmp; rw [G_340]; rfl
theorem J_340_37 : jmp 340 37 = k_340_37 := by unfold jmp; rw [G_340]; rfl
theorem J_340_52 : jmp 340 52 = k_340_52 := by unfold jmp; rw [G_340]; rfl
theorem J_340_56 : jmp 340 56 = k_340_56 := by unfold jmp; rw [G_340]; rfl
theorem J_340_57 : jmp 340 57 = k_340_57 := by unfold jmp; rw [G_340]; rfl
theorem J_340_65 : jmp 340 65 = k_340_65 := by unfold jmp; rw [G_340]; rfl
/-- FewEndsModel.behindOf(I)I -/
theorem E_340 {x1 : Int} (h : knd Sh a = 12) : evc X 340 [vR (some a), vI x1] Sh M = ev X 340 k_340_0 [some (vR (some a)), some (vI x1), none, none, none, none] [] Sh M := by
  rw [evc_go (by rw [F_340.1]; show 2 ≤ 6; omega) (rcv_v F_340.2.1 F_340.2.2 h), mkls_of F_340.1, J_340_0]
  rfl
theorem F_341 : (mT 341).2.2.1 = 3 ∧ (mwd 341).1 = 0 ∧ mcl 341 = 12 := by decide +kernel
theorem G_341 : cdl.getD 341 [] = cd_341 := rfl
theorem J_341_0 : jmp 341 0 = k_341_0 := by unfold jmp; rw [G_341]; rfl
theorem J_341_4 : jmp 341 4 = k_341_4 := by unfold jmp; rw [G_341]; rfl
theorem J_341_28 : jmp 341 28 = k_341_28 := by unfold jmp; rw [G_341]; rfl
/-- FewEndsModel.thickest()I -/
theorem E_341 (h : knd Sh a = 12) : evc X 341 [vR (some a)] Sh M = ev X 341 k_341_0 [some (vR (some a)), none, none] [] Sh M := by
  rw [evc_go (by rw [F_341.1]; show 1 ≤ 3; omega) (rcv_v F_341.2.1 F_341.2.2 h), mkls_of F_341.1, J_341_0]
  rfl
theorem F_342 : (mT 342).2.2.1 = 2 ∧ (mwd 342).1 = 0 ∧ mcl 342 = 12 := by decide +kernel
theorem G_342 : cdl.getD 342 [] = cd_342 := rfl
theorem J_342_0 : jmp 342 0 = k_342_0 := by unfold jmp; rw [G_342]; rfl
/-- FewEndsModel.mirrored()I -/
theorem E_342 (h : knd Sh a = 12) : evc X 342 [vR (some a)] Sh M = ev X 342 k_342_0 [some (vR (some a)), none] [] Sh M := by
  rw [evc_go (by rw [F_342.1]; show 1 ≤ 2; omega) (rcv_v F_342.2.1 F_342.2.2 h), mkls_of F_342.1, J_342_0]
  rfl
theorem F_343 : (mT 343).2.2.1 = 2 ∧ (mwd 343).1 = 0 ∧ mcl 343 = 12 := by decide +kernel
theorem G_343 : cdl.getD 343 [] = cd_343 := rfl
theorem J_343_0 : jmp 343 0 = k_343_0 := by unfold jmp; rw [G_343]; rfl
theorem J_343_2 : jmp 343 2 = k_343_2 := by unfold jmp; rw [G_343]; rfl
theorem J_343_29 : jmp 343 29 = k_343_29 := by unfold jmp; rw [G_343]; rfl
/-- FewEndsModel.keepsPlaces()V -/
theorem E_343 (h : knd Sh a = 12) : evc X 343 [vR (some a)] Sh M = ev X 343 k_343_0 [some (vR (some a)), none] [] Sh M := by
  rw [evc_go (by rw [F_343.1]; show 1 ≤ 2; omega) (rcv_v F_343.2.1 F_343.2.2 h), mkls_of F_343.1, J_343_0]
  rfl
theorem F_344 : (mT 344).2.2.1 = 6 ∧ (mwd 344).1 = 0 ∧ mcl 344 = 12 := by decide +kernel
theorem G_344 : cdl.getD 344 [] = cd_344 := rfl
theorem J_344_0 : jmp 344 0 = k_344_0 := by unfold jmp; rw [G_344]; rfl
theorem J_344_4 : jmp 344 4 = k_344_4 := by unfold jmp; rw [G_344]; rfl
theorem J_344_16 : jmp 344 16 = k_344_16 := by unfold jmp; rw [G_344]; rfl
theorem J_344_89 : jmp 344 89 = k_344_89 := by unfold jmp; rw [G_344]; rfl
theorem J_344_90 : jmp 344 90 = k_344_90 := by unfold jmp; rw [G_344]; rfl
theorem J_344_112 : jmp 344 112 = k_344_112 := by unfold jmp; rw [G_344]; rfl
theorem J_344_118 : jmp 344 118 = k_344_118 := by unfold jmp; rw [G_344]; rfl
/-- FewEndsModel.mirrors()I -/
theorem E_344 (h : knd Sh a = 12) : evc X 344 [vR (some a)] Sh M = ev X 344 k_344_0 [some (vR (some a)), none, none, none, none, none] [] Sh M := by
  rw [evc_go (by rw [F_344.1]; show 1 ≤ 6; omega) (rcv_v F_344.2.1 F_344.2.2 h), mkls_of F_344.1, J_344_0]
  rfl
theorem F_345 : (mT 345).2.2.1 = 2 ∧ (mwd 345).1 = 0 ∧ mcl 345 = 12 := by decide +kernel
theorem G_345 : cdl.getD 345 [] = cd_345 := rfl
theorem J_345_0 : jmp 345 0 = k_345_0 := by unfold jmp; rw [G_345]; rfl
theorem J_345_2 : jmp 345 2 = k_345_2 := by unfold jmp; rw [G_345]; rfl
theorem J_345_29 : jmp 345 29 = k_345_29 := by unfold jmp; rw [G_345]; rfl
/-- FewEndsModel.bringsPlaces()V -/
theorem E_345 (h : knd Sh a = 12) : evc X 345 [vR (some a)] Sh M = ev X 345 k_345_0 [some (vR (some a)), none] [] Sh M := by
  rw [evc_go (by rw [F_345.1]; show 1 ≤ 2; omega) (rcv_v F_345.2.1 F_345.2.2 h), mkls_of F_345.1, J_345_0]
  rfl
theorem F_346 : (mT 346).2.2.1 = 2 ∧ (mwd 346).1 = 0 ∧ mcl 346 = 12 := by decide +kernel
theorem G_346 : cdl.getD 346 [] = cd_346 := rfl
theorem J_346_0 : jmp 346 0 = k_346_0 := by unfold jmp; rw [G_346]; rfl
/-- FewEndsModel.mirrorLeast()I -/
theorem E_346 (h : knd Sh a = 12) : evc X 346 [vR (some a)] Sh M = ev X 346 k_346_0 [some (vR (some a)), none] [] Sh M := by
  rw [evc_go (by rw [F_346.1]; show 1 ≤ 2; omega) (rcv_v F_346.2.1 F_346.2.2 h), mkls_of F_346.1, J_346_0]
  rfl
theorem F_347 : (mT 347).2.2.1 = 6 ∧ (mwd 347).1 = 0 ∧ mcl 347 = 12 := by decide +kernel
theorem G_347 : cdl.getD 347 [] = cd_347 := rfl
theorem J_347_0 : jmp 347 0 = k_347_0 := by unfold jmp; rw [G_347]; rfl
theorem J_347_20 : jmp 347 20 = k_347_20 := by unfold jmp; rw [G_347]; rfl
theorem J_347_26 : jmp 347 26 = k_347_26 := by unfold jmp; rw [G_347]; rfl
theorem J_347_31 : jmp 347 31 = k_347_31 := by unfold jmp; rw [G_347]; rfl
theorem J_347_54 : jmp 347 54 = k_347_54 := by unfold jmp; rw [G_347]; rfl
theorem J_347_86 : jmp 347 86 = k_347_86 := by unfold jmp; rw [G_347]; rfl
theorem J_347_94 : jmp 347 94 = k_347_94 := by unfold jmp; rw [G_347]; rfl
theorem J_347_108 : jmp 347 108 = k_347_108 := by unfold jmp; rw [G_347]; rfl
theorem J_347_114 : jmp 347 114 = k_347_114 := by unfold jmp; rw [G_347]; rfl
/-- FewEndsModel.lasts(II)I -/
theorem E_347 {x1 : Int} {x2 : Int} (h : knd Sh a = 12) : evc X 347 [vR (some a), vI x1, vI x2] Sh M = ev X 347 k_347_0 [some (vR (some a)), some (vI x1), some (vI x2), none, none, none] [] Sh M := by
  rw [evc_go (by rw [F_347.1]; show 3 ≤ 6; omega) (rcv_v F_347.2.1 F_347.2.2 h), mkls_of F_347.1, J_347_0]
  rfl
theorem F_348 : (mT 348).2.2.1 = 10 ∧ (mwd 348).1 = 0 ∧ mcl 348 = 12 := by decide +kernel
theorem G_348 : cdl.getD 348 [] = cd_348 := rfl
theorem J_348_0 : jmp 348 0 = k_348_0 := by unfold jmp; rw [G_348]; rfl
theorem J_348_42 : jmp 348 42 = k_348_42 := by unfold jmp; rw [G_348]; rfl
theorem J_348_48 : jmp 348 48 = k_348_48 := by unfold jmp; rw [G_348]; rfl
theorem J_348_74 : jmp 348 74 = k_348_74 := by unfold jmp; rw [G_348]; rfl
theorem J_348_84 : jmp 348 84 = k_348_84 := by unfold jmp; rw [G_348]; rfl
theorem J_348_122 : jmp 348 122 = k_348_122 := by unfold jmp; rw [G_348]; rfl
theorem J_348_128 : jmp 348 128 = k_348_128 := by unfold jmp; rw [G_348]; rfl
/-- FewEndsModel.window(IIII)I -/
theorem E_348 {x1 : Int} {x2 : Int} {x3 : Int} {x4 : Int} (h : knd Sh a = 12) : evc X 348 [vR (some a), vI x1, vI x2, vI x3, vI x4] Sh M = ev X 348 k_348_0 [some (vR (some a)), some (vI x1), some (vI x2), some (vI x3), some (vI x4), none, none, none, none, none] [] Sh M := by
  rw [evc_go (by rw [F_348.1]; show 5 ≤ 10; omega) (rcv_v F_348.2.1 F_348.2.2 h), mkls_of F_348.1, J_348_0]
  rfl
theorem F_349 : (mT 349).2.2.1 = 2 ∧ (mwd 349).1 = 0 ∧ mcl 349 = 12 := by decide +kernel
theorem G_349 : cdl.getD 349 [] = cd_349 := rfl
theorem J_349_0 : jmp 349 0 = k_349_0 := by unfold jmp; rw [G_349]; rfl
theorem J_349_20 : jmp 349 20 = k_349_20 := by unfold jmp; rw [G_349]; rfl
theorem J_349_25 : jmp 349 25 = k_349_25 := by unfold jmp; rw [G_349]; rfl
/-- FewEndsModel.seam(I)I -/
theorem E_349 {x1 : Int} (h : knd Sh a = 12) : evc X 349 [vR (some a), vI x1] Sh M = ev X 349 k_349_0 [some (vR (some a)), some (vI x1)] [] Sh M := by
  rw [evc_go (by rw [F_349.1]; show 2 ≤ 2; omega) (rcv_v F_349.2.1 F_349.2.2 h), mkls_of F_349.1, J_349_0]
  rfl
theorem F_350 : (mT 350).2.2.1 = 4 ∧ (mwd 350).1 = 0 ∧ mcl 350 = 12 := by decide +kernel
theorem G_350 : cdl.getD 350 [] = cd_350 := rfl
theorem J_350_0 : jmp 350 0 = k_350_0 := by unfold jmp; rw [G_350]; rfl
theorem J_350_4 : jmp 350 4 = k_350_4 := by unfold jmp; rw [G_350]; rfl
theorem J_350_72 : jmp 350 72 = k_350_72 := by unfold jmp; rw [G_350]; rfl
theorem J_350_73 : jmp 350 73 = k_350_73 := by unfold jmp; rw [G_350]; rfl
theorem J_350_81 : jmp 350 81 = k_350_81 := by unfold jmp; rw [G_350]; rfl
/-- FewEndsModel.seamOf(I)I -/
theorem E_350 {x1 : Int} (h : knd Sh a = 12) : evc X 350 [vR (some a), vI x1] Sh M = ev X 350 k_350_0 [some (vR (some a)), some (vI x1), none, none] [] Sh M := by
  rw [evc_go (by rw [F_350.1]; show 2 ≤ 4; omega) (rcv_v F_350.2.1 F_350.2.2 h), mkls_of F_350.1, J_350_0]
  rfl
theorem F_351 : (mT 351).2.2.1 = 3 ∧ (mwd 351).1 = 0 ∧ mcl 351 = 12 := by decide +kernel
theorem G_351 : cdl.getD 351 [] = cd_351 := rfl
theorem J_351_0 : jmp 351 0 = k_351_0 := by unfold jmp; rw [G_351]; rfl
theorem J_351_4 : jmp 351 4 = k_351_4 := by unfold jmp; rw [G_351]; rfl
theorem J_351_32 : jmp 351 32 = k_351_32 := by unfold jmp; rw [G_351]; rfl
theorem J_351_36 : jmp 351 36 = k_351_36 := by unfold jmp; rw [G_351]; rfl
theorem J_351_37 : jmp 351 37 = k_351_37 := by unfold jmp; rw [G_351]; rfl
theorem J_351_44 : jmp 351 44 = k_351_44 := by unfold jmp; rw [G_351]; rfl
theorem J_351_58 : jmp 351 58 = k_351_58 := by unfold jmp; rw [G_351]; rfl
theorem J_351_63 : jmp 351 63 = k_351_63 := by unfold jmp; rw [G_351]; rfl
/-- FewEndsModel.matched()I -/
theorem E_351 (h : knd Sh a = 12) : evc X 351 [vR (some a)] Sh M = ev X 351 k_351_0 [some (vR (some a)), none, none] [] Sh M := by
  rw [evc_go (by rw [F_351.1]; show 1 ≤ 3; omega) (rcv_v F_351.2.1 F_351.2.2 h), mkls_of F_351.1, J_351_0]
  rfl
theorem F_352 : (mT 352).2.2.1 = 3 ∧ (mwd 352).1 = 0 ∧ mcl 352 = 12 := by decide +kernel
theorem G_352 : cdl.getD 352 [] = cd_352 := rfl
theorem J_352_0 : jmp 352 0 = k_352_0 := by unfold jmp; rw [G_352]; rfl
theorem J_352_38 : jmp 352 38 = k_352_38 := by unfold jmp; rw [G_352]; rfl
theorem J_352_43 : jmp 352 43 = k_352_43 := by unfold jmp; rw [G_352]; rfl
/-- FewEndsModel.buy(II)I -/
theorem E_352 {x1 : Int} {x2 : Int} (h : knd Sh a = 12) : evc X 352 [vR (some a), vI x1, vI x2] Sh M = ev X 352 k_352_0 [some (vR (some a)), some (vI x1), some (vI x2)] [] Sh M := by
  rw [evc_go (by rw [F_352.1]; show 3 ≤ 3; omega) (rcv_v F_352.2.1 F_352.2.2 h), mkls_of F_352.1, J_352_0]
  rfl
theorem F_353 : (mT 353).2.2.1 = 4 ∧ (mwd 353).1 = 0 ∧ mcl 353 = 12 := by decide +kernel
theorem G_353 : cdl.getD 353 [] = cd_353 := rfl
theorem J_353_0 : jmp 353 0 = k_353_0 := by unfold jmp; rw [G_353]; rfl
theorem J_353_18 : jmp 353 18 = k_353_18 := by unfold jmp; rw [G_353]; rfl
theorem J_353_25 : jmp 353 25 = k_353_25 := by unfold jmp; rw [G_353]; rfl
theorem J_353_68 : jmp 353 68 = k_353_68 := by unfold jmp; rw [G_353]; rfl
theorem J_353_69 : jmp 353 69 = k_353_69 := by unfold jmp; rw [G_353]; rfl
theorem J_353_77 : jmp 353 77 = k_353_77 := by unfold jmp; rw [G_353]; rfl
/-- FewEndsModel.runsOut(I)I -/
theorem E_353 {x1 : Int} (h : knd Sh a = 12) : evc X 353 [vR (some a), vI x1] Sh M = ev X 353 k_353_0 [some (vR (some a)), some (vI x1), none, none] [] Sh M := by
  rw [evc_go (by rw [F_353.1]; show 2 ≤ 4; omega) (rcv_v F_353.2.1 F_353.2.2 h), mkls_of F_353.1, J_353_0]
  rfl
theorem F_354 : (mT 354).2.2.1 = 4 ∧ (mwd 354).1 = 0 ∧ mcl 354 = 12 := by decide +kernel
theorem G_354 : cdl.getD 354 [] = cd_354 := rfl
theorem J_354_0 : jmp 354 0 = k_354_0 := by unfold jmp; rw [G_354]; rfl
theorem J_354_6 : jmp 354 6 = k_354_6 := by unfold jmp; rw [G_354]; rfl
theorem J_354_18 : jmp 354 18 = k_354_18 := by unfold jmp; rw [G_354]; rfl
theorem J_354_56 : jmp 354 56 = k_354_56 := by unfold jmp; rw [G_354]; rfl
theorem J_354_75 : jmp 354 75 = k_354_75 := by unfold jmp; rw [G_354]; rfl
theorem J_354_81 : jmp 354 81 = k_354_81 := by unfold jmp; rw [G_354]; rfl
theorem J_354_87 : jmp 354 87 = k_354_87 := by unfold jmp; rw [G_354]; rfl
/-- FewEndsModel.plain()I -/
theorem E_354 (h : knd Sh a = 12) : evc X 354 [vR (some a)] Sh M = ev X 354 k_354_0 [some (vR (some a)), none, none, none] [] Sh M := by
  rw [evc_go (by rw [F_354.1]; show 1 ≤ 4; omega) (rcv_v F_354.2.1 F_354.2.2 h), mkls_of F_354.1, J_354_0]
  rfl
theorem F_355 : (mT 355).2.2.1 = 5 ∧ (mwd 355).1 = 0 ∧ mcl 355 = 12 := by decide +kernel
theorem G_355 : cdl.getD 355 [] = cd_355 := rfl
theorem J_355_0 : jmp 355 0 = k_355_0 := by unfold jmp; rw [G_355]; rfl
theorem J_355_4 : jmp 355 4 = k_355_4 := by unfold jmp; rw [G_355]; rfl
theorem J_355_24 : jmp 355 24 = k_355_24 := by unfold jmp; rw [G_355]; rfl
theorem J_355_29 : jmp 355 29 = k_355_29 := by unfold jmp; rw [G_355]; rfl
theorem J_355_80 : jmp 355 80 = k_355_80 := by unfold jmp; rw [G_355]; rfl
theorem J_355_101 : jmp 355 101 = k_355_101 := by unfold jmp; rw [G_355]; rfl
theorem J_355_106 : jmp 355 106 = k_355_106 := by unfold jmp; rw [G_355]; rfl
theorem J_355_107 : jmp 355 107 = k_355_107 := by unfold jmp; rw [G_355]; rfl
theorem J_355_108 : jmp 355 108 = k_355_108 := by unfold jmp; rw [G_355]; rfl
theorem J_355_114 : jmp 355 114 = k_355_114 := by unfold jmp; rw [G_355]; rfl
theorem J_355_122 : jmp 355 122 = k_355_122 := by unfold jmp; rw [G_355]; rfl
theorem J_355_135 : jmp 355 135 = k_355_135 := by unfold jmp; rw [G_355]; rfl
theorem J_355_141 : jmp 355 141 = k_355_141 := by unfold jmp; rw [G_355]; rfl
/-- FewEndsModel.fill()I -/
theorem E_355 (h : knd Sh a = 12) : evc X 355 [vR (some a)] Sh M = ev X 355 k_355_0 [some (vR (some a)), none, none, none, none] [] Sh M := by
  rw [evc_go (by rw [F_355.1]; show 1 ≤ 5; omega) (rcv_v F_355.2.1 F_355.2.2 h), mkls_of F_355.1, J_355_0]
  rfl
theorem F_356 : (mT 356).2.2.1 = 9 ∧ (mwd 356).1 = 0 ∧ mcl 356 = 12 := by decide +kernel
theorem G_356 : cdl.getD 356 [] = cd_356 := rfl
theorem J_356_0 : jmp 356 0 = k_356_0 := by unfold jmp; rw [G_356]; rfl
theorem J_356_4 : jmp 356 4 = k_356_4 := by unfold jmp; rw [G_356]; rfl
theorem J_356_22 : jmp 356 22 = k_356_22 := by unfold jmp; rw [G_356]; rfl
theorem J_356_52 : jmp 356 52 = k_356_52 := by unfold jmp; rw [G_356]; rfl
theorem J_356_93 : jmp 356 93 = k_356_93 := by unfold jmp; rw [G_356]; rfl
theorem J_356_95 : jmp 356 95 = k_356_95 := by unfold jmp; rw [G_356]; rfl
theorem J_356_106 : jmp 356 106 = k_356_106 := by unfold jmp; rw [G_356]; rfl
theorem J_356_112 : jmp 356 112 = k_356_112 := by unfold jmp; rw [G_356]; rfl
theorem J_356_122 : jmp 356 122 = k_356_122 := by unfold jmp; rw [G_356]; rfl
theorem J_356_123 : jmp 356 123 = k_356_123 := by unfold jmp; rw [G_356]; rfl
theorem J_356_131 : jmp 356 131 = k_356_131 := by unfold jmp; rw [G_356]; rfl
theorem J_356_148 : jmp 356 148 = k_356_148 := by unfold jmp; rw [G_356]; rfl
/-- FewEndsModel.tidy()I -/
theorem E_356 (h : knd Sh a = 12) : evc X 356 [vR (some a)] Sh M = ev X 356 k_356_0 [some (vR (some a)), none, none, none, none, none, none, none, none] [] Sh M := by
  rw [evc_go (by rw [F_356.1]; show 1 ≤ 9; omega) (rcv_v F_356.2.1 F_356.2.2 h), mkls_of F_356.1, J_356_0]
  rfl
theorem F_357 : (mT 357).2.2.1 = 6 ∧ (mwd 357).1 = 0 ∧ mcl 357 = 12 := by decide +kernel
theorem G_357 : cdl.getD 357 [] = cd_357 := rfl
theorem J_357_0 : jmp 357 0 = k_357_0 := by unfold jmp; rw [G_357]; rfl
theorem J_357_18 : jmp 357 18 = k_357_18 := by unfold jmp; rw [G_357]; rfl
theorem J_357_20 : jmp 357 20 = k_357_20 := by unfold jmp; rw [G_357]; rfl
theorem J_357_39 : jmp 357 39 = k_357_39 := by unfold jmp; rw [G_357]; rfl
theorem J_357_41 : jmp 357 41 = k_357_41 := by unfold jmp; rw [G_357]; rfl
theorem J_357_59 : jmp 357 59 = k_357_59 := by unfold jmp; rw [G_357]; rfl
theorem J_357_80 : jmp 357 80 = k_357_80 := by unfold jmp; rw [G_357]; rfl
theorem J_357_125 : jmp 357 125 = k_357_125 := by unfold jmp; rw [G_357]; rfl
theorem J_357_164 : jmp 357 164 = k_357_164 := by unfold jmp; rw [G_357]; rfl
theorem J_357_190 : jmp 357 190 = k_357_190 := by unfold jmp; rw [G_357]; rfl
theorem J_357_218 : jmp 357 218 = k_357_218 := by unfold jmp; rw [G_357]; rfl
theorem J_357_232 : jmp 357 232 = k_357_232 := by unfold jmp; rw [G_357]; rfl
theorem J_357_252 : jmp 357 252 = k_357_252 := by unfold jmp; rw [G_357]; rfl
theorem J_357_267 : jmp 357 267 = k_357_267 := by unfold jmp; rw [G_357]; rfl
theorem J_357_268 : jmp 357 268 = k_357_268 := by unfold jmp; rw [G_357]; rfl
theorem J_357_269 : jmp 357 269 = k_357_269 := by unfold jmp; rw [G_357]; rfl
/-- FewEndsModel.follow()I -/
theorem E_357 (h : knd Sh a = 12) : evc X 357 [vR (some a)] Sh M = ev X 357 k_357_0 [some (vR (some a)), none, none, none, none, none] [] Sh M := by
  rw [evc_go (by rw [F_357.1]; show 1 ≤ 6; omega) (rcv_v F_357.2.1 F_357.2.2 h), mkls_of F_357.1, J_357_0]
  rfl
theorem F_358 : (mT 358).2.2.1 = 3 ∧ (mwd 358).1 = 0 ∧ mcl 358 = 12 := by decide +kernel
theorem G_358 : cdl.getD 358 [] = cd_358 := rfl
theorem J_358_0 : jmp 358 0 = k_358_0 := by unfold jmp; rw [G_358]; rfl
theorem J_358_13 : jmp 358 13 = k_358_13 := by unfold jmp; rw [G_358]; rfl
theorem J_358_28 : jmp 358 28 = k_358_28 := by unfold jmp; rw [G_358]; rfl
theorem J_358_54 : jmp 358 54 = k_358_54 := by unfold jmp; rw [G_358]; rfl
theorem J_358_69 : jmp 358 69 = k_358_69 := by unfold jmp; rw [G_358]; rfl
theorem J_358_90 : jmp 358 90 = k_358_90 := by unfold jmp; rw [G_358]; rfl
theorem J_358_99 : jmp 358 99 = k_358_99 := by unfold jmp; rw [G_358]; rfl
theorem J_358_117 : jmp 358 117 = k_358_117 := by unfold jmp; rw [G_358]; rfl
theorem J_358_118 : jmp 358 118 = k_358_118 := by unfold jmp; rw [G_358]; rfl
/-- FewEndsModel.knits(I)I -/
theorem E_358 {x1 : Int} (h : knd Sh a = 12) : evc X 358 [vR (some a), vI x1] Sh M = ev X 358 k_358_0 [some (vR (some a)), some (vI x1), none] [] Sh M := by
  rw [evc_go (by rw [F_358.1]; show 2 ≤ 3; omega) (rcv_v F_358.2.1 F_358.2.2 h), mkls_of F_358.1, J_358_0]
  rfl
theorem F_359 : (mT 359).2.2.1 = 5 ∧ (mwd 359).1 = 0 ∧ mcl 359 = 12 := by decide +kernel
theorem G_359 : cdl.getD 359 [] = cd_359 := rfl
theorem J_359_0 : jmp 359 0 = k_359_0 := by unfold jmp; rw [G_359]; rfl
theorem J_359_2 : jmp 359 2 = k_359_2 := by unfold jmp; rw [G_359]; rfl
theorem J_359_57 : jmp 359 57 = k_359_57 := by unfold jmp; rw [G_359]; rfl
theorem J_359_58 : jmp 359 58 = k_359_58 := by unfold jmp; rw [G_359]; rfl
theorem J_359_76 : jmp 359 76 = k_359_76 := by unfold jmp; rw [G_359]; rfl
theorem J_359_77 : jmp 359 77 = k_359_77 := by unfold jmp; rw [G_359]; rfl
theorem J_359_90 : jmp 359 90 = k_359_90 := by unfold jmp; rw [G_359]; rfl
theorem J_359_93 : jmp 359 93 = k_359_93 := by unfold jmp; rw [G_359]; rfl
theorem J_359_97 : jmp 359 97 = k_359_97 := by unfold jmp; rw [G_359]; rfl
/-- FewEndsModel.behindEnds(I)I -/
theorem E_359 {x1 : Int} (h : knd Sh a = 12) : evc X 359 [vR (some a), vI x1] Sh M = ev X 359 k_359_0 [some (vR (some a)), some (vI x1), none, none, none] [] Sh M := by
  rw [evc_go (by rw [F_359.1]; show 2 ≤ 5; omega) (rcv_v F_359.2.1 F_359.2.2 h), mkls_of F_359.1, J_359_0]
  rfl
theorem F_360 : (mT 360).2.2.1 = 2 ∧ (mwd 360).1 = 0 ∧ mcl 360 = 12 := by decide +kernel
theorem G_360 : cdl.getD 360 [] = cd_360 := rfl
theorem J_360_0 : jmp 360 0 = k_360_0 := by unfold jmp; rw [G_360]; rfl
theorem J_360_9 : jmp 360 9 = k_360_9 := by unfold jmp; rw [G_360]; rfl
theorem J_360_17 : jmp 360 17 = k_360_17 := by unfold jmp; rw [G_360]; rfl
theorem J_360_33 : jmp 360 33 = k_360_33 := by unfold jmp; rw [G_360]; rfl
theorem J_360_43 : jmp 360 43 = k_360_43 := by unfold jmp; rw [G_360]; rfl
/-- FewEndsModel.followed(I)I -/
theorem E_360 {x1 : Int} (h : knd Sh a = 12) : evc X 360 [vR (some a), vI x1] Sh M = ev X 360 k_360_0 [some (vR (some a)), some (vI x1)] [] Sh M := by
  rw [evc_go (by rw [F_360.1]; show 2 ≤ 2; omega) (rcv_v F_360.2.1 F_360.2.2 h), mkls_of F_360.1, J_360_0]
  rfl
theorem F_361 : (mT 361).2.2.1 = 2 ∧ (mwd 361).1 = 0 ∧ mcl 361 = 12 := by decide +kernel
theorem G_361 : cdl.getD 361 [] = cd_361 := rfl
theorem J_361_0 : jmp 361 0 = k_361_0 := by unfold jmp; rw [G_361]; rfl
theorem J_361_14 : jmp 361 14 = k_361_14 := by unfold jmp; rw [G_361]; rfl
theorem J_361_16 : jmp 361 16 = k_361_16 := by unfold jmp; rw [G_361]; rfl
theorem J_361_43 : jmp 361 43 = k_361_43 := by unfold jmp; rw [G_361]; rfl
/-- FewEndsModel.take()Z -/
theorem E_361 (h : knd Sh a = 12) : evc X 361 [vR (some a)] Sh M = ev X 361 k_361_0 [some (vR (some a)), none] [] Sh M := by
  rw [evc_go (by rw [F_361.1]; show 1 ≤ 2; omega) (rcv_v F_361.2.1 F_361.2.2 h), mkls_of F_361.1, J_361_0]
  rfl
theorem F_362 : (mT 362).2.2.1 = 1 ∧ (mwd 362).1 = 0 ∧ mcl 362 = 12 := by decide +kernel
theorem G_362 : cdl.getD 362 [] = cd_362 := rfl
theorem J_362_0 : jmp 362 0 = k_362_0 := by unfold jmp; rw [G_362]; rfl
theorem J_362_14 : jmp 362 14 = k_362_14 := by unfold jmp; rw [G_362]; rfl
/-- FewEndsModel.mark()I -/
theorem E_362 (h : knd Sh a = 12) : evc X 362 [vR (some a)] Sh M = ev X 362 k_362_0 [some (vR (some a))] [] Sh M := by
  rw [evc_go (by rw [F_362.1]; show 1 ≤ 1; omega) (rcv_v F_362.2.1 F_362.2.2 h), mkls_of F_362.1, J_362_0]
  rfl
theorem F_363 : (mT 363).2.2.1 = 4 ∧ (mwd 363).1 = 0 ∧ mcl 363 = 12 := by decide +kernel
theorem G_363 : cdl.getD 363 [] = cd_363 := rfl
theorem J_363_0 : jmp 363 0 = k_363_0 := by unfold jmp; rw [G_363]; rfl
theorem J_363_2 : jmp 363 2 = k_363_2 := by unfold jmp; rw [G_363]; rfl
theorem J_363_39 : jmp 363 39 = k_363_39 := by unfold jmp; rw [G_363]; rfl
theorem J_363_41 : jmp 363 41 = k_363_41 := by unfold jmp; rw [G_363]; rfl
theorem J_363_72 : jmp 363 72 = k_363_72 := by unfold jmp; rw [G_363]; rfl
/-- FewEndsModel.copies(II)V -/
theorem E_363 {x1 : Int} {x2 : Int} (h : knd Sh a = 12) : evc X 363 [vR (some a), vI x1, vI x2] Sh M = ev X 363 k_363_0 [some (vR (some a)), some (vI x1), some (vI x2), none] [] Sh M := by
  rw [evc_go (by rw [F_363.1]; show 3 ≤ 4; omega) (rcv_v F_363.2.1 F_363.2.2 h), mkls_of F_363.1, J_363_0]
  rfl
theorem F_364 : (mT 364).2.2.1 = 1 ∧ (mwd 364).1 = 0 ∧ mcl 364 = 12 := by decide +kernel
theorem G_364 : cdl.getD 364 [] = cd_364 := rfl
theorem J_364_0 : jmp 364 0 = k_364_0 := by unfold jmp; rw [G_364]; rfl
theorem J_364_14 : jmp 364 14 = k_364_14 := by unfold jmp; rw [G_364]; rfl
/-- FewEndsModel.back()I -/
theorem E_364 (h : knd Sh a = 12) : evc X 364 [vR (some a)] Sh M = ev X 364 k_364_0 [some (vR (some a))] [] Sh M := by
  rw [evc_go (by rw [F_364.1]; show 1 ≤ 1; omega) (rcv_v F_364.2.1 F_364.2.2 h), mkls_of F_364.1, J_364_0]
  rfl
end ENT
