/-! ===== the law from its first instruction ===== -/
section
variable {E : EV} {d L : Nat} {G : GD} {I : IM}
theorem sameB.nw' {I : IM} {b c k n : Nat} {r : Nat → Int32} (hn : gN G = n) (h : b ≠ n) : sameB G I (gNw G c k) (upr I n r) b := by
  subst hn
  exact sameB.nw h
theorem okO_at' {t k n : Nat} (hn : gN G = n) : okO (gNw G t k) n t := by
  subst hn
  exact okO_at
set_option maxRecDepth 100000 in
set_option maxHeartbeats 4000000 in
theorem l_entry (hfl : (eL E).stackTraces = false) (hs : SCR E L) (hn : gN G = 0) (hv : GVn G) (hvv : GVv I) (hlt : LTok (I 100016)) : Ex E (d + 61) mL_law (fun a _ _ => a = some (.int 1)) 0 [some (.ref 100000), none, none, none, none, none, none] [] (852, 26477) G I := by
  have hL := hs.2.2
  have u0 : ∀ (J : IM) (n : Nat), upr J n (fun _ => 0) n = fun _ => 0 := fun J n => by
    funext j
    exact if_pos rfl
  refine Ex.run TL_law [23] 60 ?_
  simp (maxSteps := 5000000) only [↓tL_law, ↓opPush, ↓opILoad, ↓opLLoad, ↓opALoad, ↓opIStore, ↓opAStore, ↓opLStore, ↓opIInc, ↓opI1, ↓opII, ↓opID, ↓opLL, ↓opLD, ↓opLI, ↓opI2L, ↓opL2I, ↓opLcmp, ↓opDup, ↓opDupX1, ↓opDup2, ↓opPop, ↓opIf1, ↓opIf2, ↓opGoto, ↓opIRet, ↓opZRet, ↓opLRet, ↓opVRet, ↓opGetI, ↓opGetL, ↓opGetR, ↓opPutI, ↓opPutZ, ↓opPutL, ↓opPutR, ↓opIALoad, ↓opBALoad, ↓opZALoad, ↓opLALoad, ↓opAALoad, ↓opIAStore, ↓opZAStore, ↓opLAStore, ↓opALen, ↓opGetS, ↓opGetC, ↓opStrV, ↓opStrC, ↓opCallV, ↓opCallS, ↓opSw, ↓opCopy, ↓opCallT, ↓opBRet, ↓opObjI, ↓opNew, ↓opNewA, ↓opANew, ↓opAAStore, ↓opMNew, ↓opCallI, ↓wp_s, ↓wp_0, ↓popI_c, ↓popL_c, ↓popR_c, ↓pop1_i, ↓pop1_r, ↓ldI_0, ↓ldI_s, ↓ldL_0, ↓ldL_s, ↓ldR_0, ↓ldR_s, ↓stL_0, ↓stL_s, ↓tk_0, ↓tk_s, ↓Kc_s, ↓Kc_n, isS_0, isS_s, asP_c, gi_0, gi_s, noL_0, noL_s, isW_n, isW_i, isW_r, rcv_c, rcvT_c, swK_0, swK_s, catS, or_false, false_or, not_false_eq_true, not_true_eq_false, true_implies, false_implies, and_true, true_and, ↓reduceIte, Nat.reduceAdd, Nat.reduceLT, Nat.reduceLeDiff, Nat.reduceEqDiff, Nat.reduceSub, forall_const, eq_self, and_self, or_true, true_or, ↓opCallQ, ↓opLp, rcvQ_c, ↓tL_law_0, ↓tL_law_1, ↓tL_law_2, ↓tL_law_3, ↓tL_law_4, ↓tL_law_5, ↓tL_law_6, ↓tL_law_7, ↓tL_law_8, ↓tL_law_9, ↓tL_law_10, ↓tL_law_11, hn, show nfl 10 = 17 from rfl]
  refine ⟨_, (310, 5220), _, (541, 21240), rfl, by decide, by decide, r_i10 (d := d + 56) (by show gN G + 1 = 1; rw [hn]) (okO_at' hn) (u0 I 0) ⟨(gL_nw (by omega)).trans hv.2.1, (gL_nw (by omega)).trans hv.2.2.2.2⟩, fun r G1 I1 h => ?_⟩
  obtain ⟨rfl, hD⟩ := h
  have n1 : gN G1 = 311 := hD.2.1
  simp (maxSteps := 5000000) only [↓tL_law, ↓opPush, ↓opILoad, ↓opLLoad, ↓opALoad, ↓opIStore, ↓opAStore, ↓opLStore, ↓opIInc, ↓opI1, ↓opII, ↓opID, ↓opLL, ↓opLD, ↓opLI, ↓opI2L, ↓opL2I, ↓opLcmp, ↓opDup, ↓opDupX1, ↓opDup2, ↓opPop, ↓opIf1, ↓opIf2, ↓opGoto, ↓opIRet, ↓opZRet, ↓opLRet, ↓opVRet, ↓opGetI, ↓opGetL, ↓opGetR, ↓opPutI, ↓opPutZ, ↓opPutL, ↓opPutR, ↓opIALoad, ↓opBALoad, ↓opZALoad, ↓opLALoad, ↓opAALoad, ↓opIAStore, ↓opZAStore, ↓opLAStore, ↓opALen, ↓opGetS, ↓opGetC, ↓opStrV, ↓opStrC, ↓opCallV, ↓opCallS, ↓opSw, ↓opCopy, ↓opCallT, ↓opBRet, ↓opObjI, ↓opNew, ↓opNewA, ↓opANew, ↓opAAStore, ↓opMNew, ↓opCallI, ↓wp_s, ↓wp_0, ↓popI_c, ↓popL_c, ↓popR_c, ↓pop1_i, ↓pop1_r, ↓ldI_0, ↓ldI_s, ↓ldL_0, ↓ldL_s, ↓ldR_0, ↓ldR_s, ↓stL_0, ↓stL_s, ↓tk_0, ↓tk_s, ↓Kc_s, ↓Kc_n, isS_0, isS_s, asP_c, gi_0, gi_s, noL_0, noL_s, isW_n, isW_i, isW_r, rcv_c, rcvT_c, swK_0, swK_s, catS, or_false, false_or, not_false_eq_true, not_true_eq_false, true_implies, false_implies, and_true, true_and, ↓reduceIte, Nat.reduceAdd, Nat.reduceLT, Nat.reduceLeDiff, Nat.reduceEqDiff, Nat.reduceSub, forall_const, eq_self, and_self, or_true, true_or, ↓opCallQ, ↓opLp, rcvQ_c, ↓tL_law_0, ↓tL_law_1, ↓tL_law_2, ↓tL_law_3, ↓tL_law_4, ↓tL_law_5, ↓tL_law_6, ↓tL_law_7, ↓tL_law_8, ↓tL_law_9, ↓tL_law_10, ↓tL_law_11, n1, show nfl 11 = 45 from rfl]
  refine ⟨_, (26, 18116), _, (514, 3079), rfl, by decide, by decide, r_i11 (d := d + 59) (by show gN G1 + 1 = 312; rw [n1]) (okO_at' n1) (u0 I1 311), fun r G2 I2 h => ?_⟩
  obtain ⟨rfl, hE⟩ := h
  have n2 : gN G2 = 338 := hE.2.1
  simp (maxSteps := 5000000) only [↓tL_law, ↓opPush, ↓opILoad, ↓opLLoad, ↓opALoad, ↓opIStore, ↓opAStore, ↓opLStore, ↓opIInc, ↓opI1, ↓opII, ↓opID, ↓opLL, ↓opLD, ↓opLI, ↓opI2L, ↓opL2I, ↓opLcmp, ↓opDup, ↓opDupX1, ↓opDup2, ↓opPop, ↓opIf1, ↓opIf2, ↓opGoto, ↓opIRet, ↓opZRet, ↓opLRet, ↓opVRet, ↓opGetI, ↓opGetL, ↓opGetR, ↓opPutI, ↓opPutZ, ↓opPutL, ↓opPutR, ↓opIALoad, ↓opBALoad, ↓opZALoad, ↓opLALoad, ↓opAALoad, ↓opIAStore, ↓opZAStore, ↓opLAStore, ↓opALen, ↓opGetS, ↓opGetC, ↓opStrV, ↓opStrC, ↓opCallV, ↓opCallS, ↓opSw, ↓opCopy, ↓opCallT, ↓opBRet, ↓opObjI, ↓opNew, ↓opNewA, ↓opANew, ↓opAAStore, ↓opMNew, ↓opCallI, ↓wp_s, ↓wp_0, ↓popI_c, ↓popL_c, ↓popR_c, ↓pop1_i, ↓pop1_r, ↓ldI_0, ↓ldI_s, ↓ldL_0, ↓ldL_s, ↓ldR_0, ↓ldR_s, ↓stL_0, ↓stL_s, ↓tk_0, ↓tk_s, ↓Kc_s, ↓Kc_n, isS_0, isS_s, asP_c, gi_0, gi_s, noL_0, noL_s, isW_n, isW_i, isW_r, rcv_c, rcvT_c, swK_0, swK_s, catS, or_false, false_or, not_false_eq_true, not_true_eq_false, true_implies, false_implies, and_true, true_and, ↓reduceIte, Nat.reduceAdd, Nat.reduceLT, Nat.reduceLeDiff, Nat.reduceEqDiff, Nat.reduceSub, forall_const, eq_self, and_self, or_true, true_or, ↓opCallQ, ↓opLp, rcvQ_c, ↓tL_law_0, ↓tL_law_1, ↓tL_law_2, ↓tL_law_3, ↓tL_law_4, ↓tL_law_5, ↓tL_law_6, ↓tL_law_7, ↓tL_law_8, ↓tL_law_9, ↓tL_law_10, ↓tL_law_11, n2, show (1 : Int32).toNatClampNeg = 1 by decide, show ¬ (1 : Int32) < 0 by decide]
  have cl : ∀ b, b < 339 → cellS (gNw G2 101 1) (upr I2 338 (fun _ => 0)) b := fun b hb => by
    by_cases e1 : b < 311
    · exact (hD.2.2.2 b (Nat.zero_le _) e1).keep (((sameB.nw' n1 (by omega)).tr (hE.2.2.1 b (Or.inl e1))).tr (sameB.nw' n2 (by omega)))
    · by_cases e2 : b < 338
      · exact (hE.2.2.2 b (by omega) e2).keep (sameB.nw' n2 (by omega))
      · obtain rfl : b = 338 := by omega
        have a1 := gNw_at (G := G2) 101 1
        rw [n2] at a1
        refine ⟨a1.1.trans rfl, fun _ => a1.2.1.trans rfl, fun k q z => ?_, (u0 I2 338).trans (kI_z (by decide)).symm⟩
        have := lkP_mem z
        exact absurd this (by rw [show tblP.getD 338 [] = [] from rfl]; exact List.not_mem_nil)
  have kp : ∀ b, 100000 ≤ b → sameB G I (gNw G2 101 1) (upr I2 338 (fun _ => 0)) b := fun b hb => ((((sameB.nw' hn (by omega)).tr (hD.2.2.1 b (Or.inr hb))).tr (sameB.nw' n1 (by omega))).tr (hE.2.2.1 b (Or.inr hb))).tr (sameB.nw' n2 (by omega))
  have iv : ∀ b, 100000 ≤ b → upr I2 338 (fun _ => 0) b = I b := fun b hb => (kp b hb).2.2.2.2
  have hX : JX (gNw G2 101 1) (upr I2 338 (fun _ => 0)) := by
    refine ⟨⟨by show 339 ≤ gN G2 + 1; omega, fun a ha => ⟨(cl a ha).1, (cl a ha).2.1, (cl a ha).2.2.1⟩⟩, ⟨fun j hj => ?_, (kp _ (by decide)).2.1.trans hv.2.1, (kp _ (by decide)).2.1.trans hv.2.2.1, (kp _ (by decide)).2.1.trans hv.2.2.2.1, (kp _ (by decide)).2.1.trans hv.2.2.2.2⟩, ji_first (fun b hb => (cl b hb).2.2.2) ?_ ?_⟩
    · obtain ⟨⟨a1, a2⟩, a3⟩ := hv.1 j hj
      exact ⟨⟨Or.inr (by omega), (kp _ (by omega)).1.trans a2⟩, (kp _ (by omega)).2.1.trans a3⟩
    · unfold GVv
      rw [iv 100014 (by decide), iv 100001 (by decide), iv 100002 (by decide), iv 100015 (by decide), iv 100003 (by decide), iv 100004 (by decide), iv 100013 (by decide), iv 100005 (by decide), iv 100006 (by decide)]
      exact hvv
    · rw [iv 100016 (by decide)]
      exact hlt
  exact l_lawloop hfl hs 513 0 _ _ (513, 3078) (by omega) (by decide) hX (by show gN G2 + 1 ≤ 400 + 0; omega) (by decide) (by decide)
end
