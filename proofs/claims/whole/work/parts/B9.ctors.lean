/-! ===== the constructors that call others ===== -/
section
variable {E : EV} {d : Nat} {G G0 G1 : GD} {I I0 I1 : IM} {a b c n n' r c' : Nat} {dn : List (Nat × Nat)} {ri : Nat → Int32}
def st6b (a : Nat) : Bool := decide (st6 a)
theorem gN_mul {n k : Nat} : gN (gMul G n k) = gN G + 1 + n := rfl
theorem gC_mul {n k a : Nat} : gC (gMul G n k) a = if a = gN G then 105 else if gN G < a ∧ a ≤ gN G + n then 100 else gC G a := rfl
theorem okO_mul {n k a c : Nat} : okO (gMul G n k) a c = (a < gN G + 1 + n ∧ gC (gMul G n k) a = c) := rfl
theorem SB.fresh (h : SB r a n c G0 I0 dn ri G I) (c' : Nat) : gN (gNw G c' 0) = n + 1 ∧ okO (gNw G c' 0) n c' ∧ upr I n (fun _ => 0) n = fun _ => 0 := by
  have e := h.2.1
  subst e
  exact ⟨rfl, okO_at, by funext j; exact if_pos rfl⟩
theorem SB.okD (h : SB r a n c G0 I0 dn ri G I) (hD : Done n n' (gNw G c' 0) (upr I n (fun _ => 0)) G1 I1) : okO G1 a c := by
  obtain ⟨⟨s1, s2⟩, s3, s4, s5, -⟩ := h
  obtain ⟨⟨t1, t2⟩, t3, t4, -⟩ := hD
  exact ⟨by omega, (t4 a (Or.inl s1)).1.trans ((gC_nw (by omega)).trans s5)⟩
theorem SB.txt (h : SB r a n c G0 I0 dn ri G I) (c' : Nat) (ht : gL G0 100013 = 4 ∧ gL G0 100016 = 6) (hn : n < 100000) : gL (gNw G c' 0) 100013 = 4 ∧ gL (gNw G c' 0) 100016 = 6 := by
  have e := h.2.1
  exact ⟨(gL_nw (by omega)).trans ((h.2.2.1 100013 (Or.inr (by decide))).2.1.trans ht.1), (gL_nw (by omega)).trans ((h.2.2.1 100016 (Or.inr (by decide))).2.1.trans ht.2)⟩
set_option maxRecDepth 100000 in
set_option maxHeartbeats 4000000 in
theorem r_i8_4 (hn : gN G = 5) (hc : okO G 4 8) (h0 : I 4 = fun _ => 0) : KQ E (d + 2) mX8_init 4 12 (7, 65) G I := by
  have hd0 : 0 < d + 2 := Nat.succ_pos _
  refine Ct.run okX8_init TQX8_init [] 300 rfl rfl ?_
  have s0 := SB.base (r := 0) hn (by decide) hc.2 h0
  simp only [↓tQX8_init, ↓opPush, ↓opILoad, ↓opLLoad, ↓opALoad, ↓opIStore, ↓opAStore, ↓opLStore, ↓opIInc, ↓opI1, ↓opII, ↓opID, ↓opLL, ↓opLD, ↓opLI, ↓opI2L, ↓opL2I, ↓opLcmp, ↓opDup, ↓opDupX1, ↓opDup2, ↓opPop, ↓opIf1, ↓opIf2, ↓opGoto, ↓opIRet, ↓opZRet, ↓opLRet, ↓opVRet, ↓opGetI, ↓opGetL, ↓opGetR, ↓opPutI, ↓opPutZ, ↓opPutL, ↓opPutR, ↓opIALoad, ↓opBALoad, ↓opZALoad, ↓opLALoad, ↓opAALoad, ↓opIAStore, ↓opZAStore, ↓opLAStore, ↓opALen, ↓opGetS, ↓opGetC, ↓opStrV, ↓opStrC, ↓opCallV, ↓opCallS, ↓opSw, ↓opCopy, ↓opCallT, ↓opBRet, ↓opObjI, ↓opNew, ↓opNewA, ↓opANew, ↓opAAStore, ↓opMNew, ↓opCallI, ↓wp_s, ↓wp_0, ↓popI_c, ↓popL_c, ↓popR_c, ↓pop1_i, ↓pop1_r, ↓ldI_0, ↓ldI_s, ↓ldL_0, ↓ldL_s, ↓ldR_0, ↓ldR_s, ↓stL_0, ↓stL_s, ↓tk_0, ↓tk_s, ↓Kc_s, ↓Kc_n, isS_0, isS_s, asP_c, gi_0, gi_s, noL_0, noL_s, isW_n, isW_i, isW_r, rcv_c, rcvT_c, swK_0, swK_s, catS, or_false, false_or, not_false_eq_true, not_true_eq_false, true_implies, false_implies, and_true, true_and, ↓reduceIte, Nat.reduceAdd, Nat.reduceLT, Nat.reduceLeDiff, Nat.reduceEqDiff, Nat.reduceSub, forall_const, eq_self, and_self, or_true, true_or, ↓opCallQ, ↓opLp, rcvQ_c, lve_i, lve_r, lve_l, lve_0, List.replicate_succ, List.replicate_zero, mX, mX8_init, hd0, hc, hc.2, okO_gpP, okO_nwE, gC_gpP, gC_nwE, gN_gpP, gN_nw, hn, show (5 : Int32).toNatClampNeg = 5 by decide, show ¬ (5 : Int32) < 0 by decide, show nfl 6 = 7 from rfl]
  have s1 := s0.int (k := 0) (v := 0)
  have s2 := s1.int (k := 1) (v := 0)
  have s3 := s2.int (k := 2) (v := 0)
  have s4 := s3.arr (k := 3) (t := 100) (len := 5) (by decide) rfl rfl (Or.inr rfl) (by decide) (by decide)
  have s5 := s4.arr (k := 4) (t := 100) (len := 5) (by decide) rfl rfl (Or.inr rfl) (by decide) (by decide)
  have f6 := s5.fresh 6
  refine ⟨_, (4, 48), _, (0, 0), rfl, by decide, by decide, r_i6 (a := 7) (d := d) (by decide) (by decide) f6.1 f6.2.1 f6.2.2, fun r G6 I6 h => ?_⟩
  obtain ⟨rfl, hD6⟩ := h
  have hc6 := s5.okD hD6
  have s6 := s5.sub (k := 5) hD6 (by decide)
  simp only [↓tQX8_init, ↓opPush, ↓opILoad, ↓opLLoad, ↓opALoad, ↓opIStore, ↓opAStore, ↓opLStore, ↓opIInc, ↓opI1, ↓opII, ↓opID, ↓opLL, ↓opLD, ↓opLI, ↓opI2L, ↓opL2I, ↓opLcmp, ↓opDup, ↓opDupX1, ↓opDup2, ↓opPop, ↓opIf1, ↓opIf2, ↓opGoto, ↓opIRet, ↓opZRet, ↓opLRet, ↓opVRet, ↓opGetI, ↓opGetL, ↓opGetR, ↓opPutI, ↓opPutZ, ↓opPutL, ↓opPutR, ↓opIALoad, ↓opBALoad, ↓opZALoad, ↓opLALoad, ↓opAALoad, ↓opIAStore, ↓opZAStore, ↓opLAStore, ↓opALen, ↓opGetS, ↓opGetC, ↓opStrV, ↓opStrC, ↓opCallV, ↓opCallS, ↓opSw, ↓opCopy, ↓opCallT, ↓opBRet, ↓opObjI, ↓opNew, ↓opNewA, ↓opANew, ↓opAAStore, ↓opMNew, ↓opCallI, ↓wp_s, ↓wp_0, ↓popI_c, ↓popL_c, ↓popR_c, ↓pop1_i, ↓pop1_r, ↓ldI_0, ↓ldI_s, ↓ldL_0, ↓ldL_s, ↓ldR_0, ↓ldR_s, ↓stL_0, ↓stL_s, ↓tk_0, ↓tk_s, ↓Kc_s, ↓Kc_n, isS_0, isS_s, asP_c, gi_0, gi_s, noL_0, noL_s, isW_n, isW_i, isW_r, rcv_c, rcvT_c, swK_0, swK_s, catS, or_false, false_or, not_false_eq_true, not_true_eq_false, true_implies, false_implies, and_true, true_and, ↓reduceIte, Nat.reduceAdd, Nat.reduceLT, Nat.reduceLeDiff, Nat.reduceEqDiff, Nat.reduceSub, forall_const, eq_self, and_self, or_true, true_or, ↓opCallQ, ↓opLp, rcvQ_c, hd0, hc6, hc6.2, okO_gpP, okO_nwE, gC_gpP, gC_nwE, gN_gpP, gN_nw, hD6.2.1, show (5 : Int32).toNatClampNeg = 5 by decide, show ¬ (5 : Int32) < 0 by decide, show nfl 6 = 7 from rfl]
  exact s6.fin rfl (by decide) (by decide) ((kI_z (by decide)).trans (by funext j; simp)) (Or.inl rfl)
set_option maxRecDepth 100000 in
set_option maxHeartbeats 4000000 in
theorem r_i8_15 (hn : gN G = 16) (hc : okO G 15 8) (h0 : I 15 = fun _ => 0) : KQ E (d + 2) mX8_init 15 23 (7, 65) G I := by
  have hd0 : 0 < d + 2 := Nat.succ_pos _
  refine Ct.run okX8_init TQX8_init [] 300 rfl rfl ?_
  have s0 := SB.base (r := 0) hn (by decide) hc.2 h0
  simp only [↓tQX8_init, ↓opPush, ↓opILoad, ↓opLLoad, ↓opALoad, ↓opIStore, ↓opAStore, ↓opLStore, ↓opIInc, ↓opI1, ↓opII, ↓opID, ↓opLL, ↓opLD, ↓opLI, ↓opI2L, ↓opL2I, ↓opLcmp, ↓opDup, ↓opDupX1, ↓opDup2, ↓opPop, ↓opIf1, ↓opIf2, ↓opGoto, ↓opIRet, ↓opZRet, ↓opLRet, ↓opVRet, ↓opGetI, ↓opGetL, ↓opGetR, ↓opPutI, ↓opPutZ, ↓opPutL, ↓opPutR, ↓opIALoad, ↓opBALoad, ↓opZALoad, ↓opLALoad, ↓opAALoad, ↓opIAStore, ↓opZAStore, ↓opLAStore, ↓opALen, ↓opGetS, ↓opGetC, ↓opStrV, ↓opStrC, ↓opCallV, ↓opCallS, ↓opSw, ↓opCopy, ↓opCallT, ↓opBRet, ↓opObjI, ↓opNew, ↓opNewA, ↓opANew, ↓opAAStore, ↓opMNew, ↓opCallI, ↓wp_s, ↓wp_0, ↓popI_c, ↓popL_c, ↓popR_c, ↓pop1_i, ↓pop1_r, ↓ldI_0, ↓ldI_s, ↓ldL_0, ↓ldL_s, ↓ldR_0, ↓ldR_s, ↓stL_0, ↓stL_s, ↓tk_0, ↓tk_s, ↓Kc_s, ↓Kc_n, isS_0, isS_s, asP_c, gi_0, gi_s, noL_0, noL_s, isW_n, isW_i, isW_r, rcv_c, rcvT_c, swK_0, swK_s, catS, or_false, false_or, not_false_eq_true, not_true_eq_false, true_implies, false_implies, and_true, true_and, ↓reduceIte, Nat.reduceAdd, Nat.reduceLT, Nat.reduceLeDiff, Nat.reduceEqDiff, Nat.reduceSub, forall_const, eq_self, and_self, or_true, true_or, ↓opCallQ, ↓opLp, rcvQ_c, lve_i, lve_r, lve_l, lve_0, List.replicate_succ, List.replicate_zero, mX, mX8_init, hd0, hc, hc.2, okO_gpP, okO_nwE, gC_gpP, gC_nwE, gN_gpP, gN_nw, hn, show (5 : Int32).toNatClampNeg = 5 by decide, show ¬ (5 : Int32) < 0 by decide, show nfl 6 = 7 from rfl]
  have s1 := s0.int (k := 0) (v := 0)
  have s2 := s1.int (k := 1) (v := 0)
  have s3 := s2.int (k := 2) (v := 0)
  have s4 := s3.arr (k := 3) (t := 100) (len := 5) (by decide) rfl rfl (Or.inr rfl) (by decide) (by decide)
  have s5 := s4.arr (k := 4) (t := 100) (len := 5) (by decide) rfl rfl (Or.inr rfl) (by decide) (by decide)
  have f6 := s5.fresh 6
  refine ⟨_, (4, 48), _, (0, 0), rfl, by decide, by decide, r_i6 (a := 18) (d := d) (by decide) (by decide) f6.1 f6.2.1 f6.2.2, fun r G6 I6 h => ?_⟩
  obtain ⟨rfl, hD6⟩ := h
  have hc6 := s5.okD hD6
  have s6 := s5.sub (k := 5) hD6 (by decide)
  simp only [↓tQX8_init, ↓opPush, ↓opILoad, ↓opLLoad, ↓opALoad, ↓opIStore, ↓opAStore, ↓opLStore, ↓opIInc, ↓opI1, ↓opII, ↓opID, ↓opLL, ↓opLD, ↓opLI, ↓opI2L, ↓opL2I, ↓opLcmp, ↓opDup, ↓opDupX1, ↓opDup2, ↓opPop, ↓opIf1, ↓opIf2, ↓opGoto, ↓opIRet, ↓opZRet, ↓opLRet, ↓opVRet, ↓opGetI, ↓opGetL, ↓opGetR, ↓opPutI, ↓opPutZ, ↓opPutL, ↓opPutR, ↓opIALoad, ↓opBALoad, ↓opZALoad, ↓opLALoad, ↓opAALoad, ↓opIAStore, ↓opZAStore, ↓opLAStore, ↓opALen, ↓opGetS, ↓opGetC, ↓opStrV, ↓opStrC, ↓opCallV, ↓opCallS, ↓opSw, ↓opCopy, ↓opCallT, ↓opBRet, ↓opObjI, ↓opNew, ↓opNewA, ↓opANew, ↓opAAStore, ↓opMNew, ↓opCallI, ↓wp_s, ↓wp_0, ↓popI_c, ↓popL_c, ↓popR_c, ↓pop1_i, ↓pop1_r, ↓ldI_0, ↓ldI_s, ↓ldL_0, ↓ldL_s, ↓ldR_0, ↓ldR_s, ↓stL_0, ↓stL_s, ↓tk_0, ↓tk_s, ↓Kc_s, ↓Kc_n, isS_0, isS_s, asP_c, gi_0, gi_s, noL_0, noL_s, isW_n, isW_i, isW_r, rcv_c, rcvT_c, swK_0, swK_s, catS, or_false, false_or, not_false_eq_true, not_true_eq_false, true_implies, false_implies, and_true, true_and, ↓reduceIte, Nat.reduceAdd, Nat.reduceLT, Nat.reduceLeDiff, Nat.reduceEqDiff, Nat.reduceSub, forall_const, eq_self, and_self, or_true, true_or, ↓opCallQ, ↓opLp, rcvQ_c, hd0, hc6, hc6.2, okO_gpP, okO_nwE, gC_gpP, gC_nwE, gN_gpP, gN_nw, hD6.2.1, show (5 : Int32).toNatClampNeg = 5 by decide, show ¬ (5 : Int32) < 0 by decide, show nfl 6 = 7 from rfl]
  exact s6.fin rfl (by decide) (by decide) ((kI_z (by decide)).trans (by funext j; simp)) (Or.inl rfl)
set_option maxRecDepth 100000 in
set_option maxHeartbeats 4000000 in
theorem r_i1 (hn : gN G = 24) (hc : okO G 23 1) (h0 : I 23 = fun _ => 0) : KQ E (d + 2) mX1_init 23 27 (3, 245) G I := by
  have hd0 : 0 < d + 2 := Nat.succ_pos _
  refine Ct.run okX1_init TQX1_init [] 300 rfl rfl ?_
  have s0 := SB.base (r := 0) hn (by decide) hc.2 h0
  simp only [↓tQX1_init, ↓opPush, ↓opILoad, ↓opLLoad, ↓opALoad, ↓opIStore, ↓opAStore, ↓opLStore, ↓opIInc, ↓opI1, ↓opII, ↓opID, ↓opLL, ↓opLD, ↓opLI, ↓opI2L, ↓opL2I, ↓opLcmp, ↓opDup, ↓opDupX1, ↓opDup2, ↓opPop, ↓opIf1, ↓opIf2, ↓opGoto, ↓opIRet, ↓opZRet, ↓opLRet, ↓opVRet, ↓opGetI, ↓opGetL, ↓opGetR, ↓opPutI, ↓opPutZ, ↓opPutL, ↓opPutR, ↓opIALoad, ↓opBALoad, ↓opZALoad, ↓opLALoad, ↓opAALoad, ↓opIAStore, ↓opZAStore, ↓opLAStore, ↓opALen, ↓opGetS, ↓opGetC, ↓opStrV, ↓opStrC, ↓opCallV, ↓opCallS, ↓opSw, ↓opCopy, ↓opCallT, ↓opBRet, ↓opObjI, ↓opNew, ↓opNewA, ↓opANew, ↓opAAStore, ↓opMNew, ↓opCallI, ↓wp_s, ↓wp_0, ↓popI_c, ↓popL_c, ↓popR_c, ↓pop1_i, ↓pop1_r, ↓ldI_0, ↓ldI_s, ↓ldL_0, ↓ldL_s, ↓ldR_0, ↓ldR_s, ↓stL_0, ↓stL_s, ↓tk_0, ↓tk_s, ↓Kc_s, ↓Kc_n, isS_0, isS_s, asP_c, gi_0, gi_s, noL_0, noL_s, isW_n, isW_i, isW_r, rcv_c, rcvT_c, swK_0, swK_s, catS, or_false, false_or, not_false_eq_true, not_true_eq_false, true_implies, false_implies, and_true, true_and, ↓reduceIte, Nat.reduceAdd, Nat.reduceLT, Nat.reduceLeDiff, Nat.reduceEqDiff, Nat.reduceSub, forall_const, eq_self, and_self, or_true, true_or, ↓opCallQ, ↓opLp, rcvQ_c, lve_i, lve_r, lve_l, lve_0, List.replicate_succ, List.replicate_zero, mX, mX1_init, hd0, hc, hc.2, okO_gpP, okO_nwE, gC_gpP, gC_nwE, gN_gpP, gN_nw, hn, show (241 : Int32).toNatClampNeg = 241 by decide, show ¬ (241 : Int32) < 0 by decide, show nfl 5 = 4 from rfl]
  have s1 := s0.arr (k := 0) (t := 100) (len := 241) (by decide) rfl rfl (Or.inr rfl) (by decide) (by decide)
  have s2 := s1.int (k := 1) (v := 0)
  have f3 := s2.fresh 5
  refine ⟨_, (1, 0), _, (0, 0), rfl, by decide, by decide, r_i5_25 (d := d) f3.1 f3.2.1 f3.2.2, fun r G3 I3 h => ?_⟩
  obtain ⟨rfl, hD3⟩ := h
  have hc3 := s2.okD hD3
  have s3 := s2.sub (k := 2) hD3 (by decide)
  simp only [↓tQX1_init, ↓opPush, ↓opILoad, ↓opLLoad, ↓opALoad, ↓opIStore, ↓opAStore, ↓opLStore, ↓opIInc, ↓opI1, ↓opII, ↓opID, ↓opLL, ↓opLD, ↓opLI, ↓opI2L, ↓opL2I, ↓opLcmp, ↓opDup, ↓opDupX1, ↓opDup2, ↓opPop, ↓opIf1, ↓opIf2, ↓opGoto, ↓opIRet, ↓opZRet, ↓opLRet, ↓opVRet, ↓opGetI, ↓opGetL, ↓opGetR, ↓opPutI, ↓opPutZ, ↓opPutL, ↓opPutR, ↓opIALoad, ↓opBALoad, ↓opZALoad, ↓opLALoad, ↓opAALoad, ↓opIAStore, ↓opZAStore, ↓opLAStore, ↓opALen, ↓opGetS, ↓opGetC, ↓opStrV, ↓opStrC, ↓opCallV, ↓opCallS, ↓opSw, ↓opCopy, ↓opCallT, ↓opBRet, ↓opObjI, ↓opNew, ↓opNewA, ↓opANew, ↓opAAStore, ↓opMNew, ↓opCallI, ↓wp_s, ↓wp_0, ↓popI_c, ↓popL_c, ↓popR_c, ↓pop1_i, ↓pop1_r, ↓ldI_0, ↓ldI_s, ↓ldL_0, ↓ldL_s, ↓ldR_0, ↓ldR_s, ↓stL_0, ↓stL_s, ↓tk_0, ↓tk_s, ↓Kc_s, ↓Kc_n, isS_0, isS_s, asP_c, gi_0, gi_s, noL_0, noL_s, isW_n, isW_i, isW_r, rcv_c, rcvT_c, swK_0, swK_s, catS, or_false, false_or, not_false_eq_true, not_true_eq_false, true_implies, false_implies, and_true, true_and, ↓reduceIte, Nat.reduceAdd, Nat.reduceLT, Nat.reduceLeDiff, Nat.reduceEqDiff, Nat.reduceSub, forall_const, eq_self, and_self, or_true, true_or, ↓opCallQ, ↓opLp, rcvQ_c, hd0, hc3, hc3.2, okO_gpP, okO_nwE, gC_gpP, gC_nwE, gN_gpP, gN_nw, hD3.2.1, show (241 : Int32).toNatClampNeg = 241 by decide, show ¬ (241 : Int32) < 0 by decide, show nfl 5 = 4 from rfl]
  have s4 := s3.int (k := 3) (v := 0)
  exact s4.fin rfl (by decide) (by decide) ((kI_z (by decide)).trans (by funext j; simp)) (Or.inl rfl)
set_option maxRecDepth 100000 in
set_option maxHeartbeats 4000000 in
theorem r_i2 (hn : gN G = 28) (hc : okO G 27 2) (h0 : I 27 = fun _ => 0) (ht : gL G 100013 = 4 ∧ gL G 100016 = 6) : KQ E (d + 2) mX2_init 27 36 (8, 1010) G I := by
  have hd0 : 0 < d + 2 := Nat.succ_pos _
  refine Ct.run okX2_init TX2_init [] 300 rfl rfl ?_
  have s0 := SB.base (r := 0) hn (by decide) hc.2 h0
  simp only [↓tX2_init, ↓opPush, ↓opILoad, ↓opLLoad, ↓opALoad, ↓opIStore, ↓opAStore, ↓opLStore, ↓opIInc, ↓opI1, ↓opII, ↓opID, ↓opLL, ↓opLD, ↓opLI, ↓opI2L, ↓opL2I, ↓opLcmp, ↓opDup, ↓opDupX1, ↓opDup2, ↓opPop, ↓opIf1, ↓opIf2, ↓opGoto, ↓opIRet, ↓opZRet, ↓opLRet, ↓opVRet, ↓opGetI, ↓opGetL, ↓opGetR, ↓opPutI, ↓opPutZ, ↓opPutL, ↓opPutR, ↓opIALoad, ↓opBALoad, ↓opZALoad, ↓opLALoad, ↓opAALoad, ↓opIAStore, ↓opZAStore, ↓opLAStore, ↓opALen, ↓opGetS, ↓opGetC, ↓opStrV, ↓opStrC, ↓opCallV, ↓opCallS, ↓opSw, ↓opCopy, ↓opCallT, ↓opBRet, ↓opObjI, ↓opNew, ↓opNewA, ↓opANew, ↓opAAStore, ↓opMNew, ↓opCallI, ↓wp_s, ↓wp_0, ↓popI_c, ↓popL_c, ↓popR_c, ↓pop1_i, ↓pop1_r, ↓ldI_0, ↓ldI_s, ↓ldL_0, ↓ldL_s, ↓ldR_0, ↓ldR_s, ↓stL_0, ↓stL_s, ↓tk_0, ↓tk_s, ↓Kc_s, ↓Kc_n, isS_0, isS_s, asP_c, gi_0, gi_s, noL_0, noL_s, isW_n, isW_i, isW_r, rcv_c, rcvT_c, swK_0, swK_s, catS, or_false, false_or, not_false_eq_true, not_true_eq_false, true_implies, false_implies, and_true, true_and, ↓reduceIte, Nat.reduceAdd, Nat.reduceLT, Nat.reduceLeDiff, Nat.reduceEqDiff, Nat.reduceSub, forall_const, eq_self, and_self, or_true, true_or, lve_i, lve_r, lve_l, lve_0, List.replicate_succ, List.replicate_zero, mX, mX2_init, hd0, hc, hc.2, okO_gpP, okO_nwE, gC_gpP, gC_nwE, gN_gpP, gN_nw, hn, show (4 : Int32).toNatClampNeg = 4 by decide, show ¬ (4 : Int32) < 0 by decide, show (6 : Int32).toNatClampNeg = 6 by decide, show ¬ (6 : Int32) < 0 by decide, show (32 : Int32).toNatClampNeg = 32 by decide, show ¬ (32 : Int32) < 0 by decide, show (241 : Int32).toNatClampNeg = 241 by decide, show ¬ (241 : Int32) < 0 by decide, okO_mul, gC_mul, gN_mul, Nat.reduceMul, false_and, and_false]
  have s1 := s0.mul (k := 0) (by decide) rfl rfl rfl (by decide) (by decide) (by decide)
  have s2 := s1.arr (k := 1) (t := 100) (len := 4) (by decide) rfl rfl (Or.inr rfl) (by decide) (by decide)
  have hl3 : gL _ 100016 = 6 := (s2.2.2.1 100016 (Or.inr (by decide))).2.1.trans ht.2
  refine ⟨_, _, _, _, rfl, c_strLen (a := 100010) (n := 6) (by decide) hl3, ?_⟩
  simp only [↓tX2_init, ↓opPush, ↓opILoad, ↓opLLoad, ↓opALoad, ↓opIStore, ↓opAStore, ↓opLStore, ↓opIInc, ↓opI1, ↓opII, ↓opID, ↓opLL, ↓opLD, ↓opLI, ↓opI2L, ↓opL2I, ↓opLcmp, ↓opDup, ↓opDupX1, ↓opDup2, ↓opPop, ↓opIf1, ↓opIf2, ↓opGoto, ↓opIRet, ↓opZRet, ↓opLRet, ↓opVRet, ↓opGetI, ↓opGetL, ↓opGetR, ↓opPutI, ↓opPutZ, ↓opPutL, ↓opPutR, ↓opIALoad, ↓opBALoad, ↓opZALoad, ↓opLALoad, ↓opAALoad, ↓opIAStore, ↓opZAStore, ↓opLAStore, ↓opALen, ↓opGetS, ↓opGetC, ↓opStrV, ↓opStrC, ↓opCallV, ↓opCallS, ↓opSw, ↓opCopy, ↓opCallT, ↓opBRet, ↓opObjI, ↓opNew, ↓opNewA, ↓opANew, ↓opAAStore, ↓opMNew, ↓opCallI, ↓wp_s, ↓wp_0, ↓popI_c, ↓popL_c, ↓popR_c, ↓pop1_i, ↓pop1_r, ↓ldI_0, ↓ldI_s, ↓ldL_0, ↓ldL_s, ↓ldR_0, ↓ldR_s, ↓stL_0, ↓stL_s, ↓tk_0, ↓tk_s, ↓Kc_s, ↓Kc_n, isS_0, isS_s, asP_c, gi_0, gi_s, noL_0, noL_s, isW_n, isW_i, isW_r, rcv_c, rcvT_c, swK_0, swK_s, catS, or_false, false_or, not_false_eq_true, not_true_eq_false, true_implies, false_implies, and_true, true_and, ↓reduceIte, Nat.reduceAdd, Nat.reduceLT, Nat.reduceLeDiff, Nat.reduceEqDiff, Nat.reduceSub, forall_const, eq_self, and_self, or_true, true_or, hd0, hc, hc.2, okO_gpP, okO_nwE, gC_gpP, gC_nwE, gN_gpP, gN_nw, hn, show (4 : Int32).toNatClampNeg = 4 by decide, show ¬ (4 : Int32) < 0 by decide, show (6 : Int32).toNatClampNeg = 6 by decide, show ¬ (6 : Int32) < 0 by decide, show (32 : Int32).toNatClampNeg = 32 by decide, show ¬ (32 : Int32) < 0 by decide, show (241 : Int32).toNatClampNeg = 241 by decide, show ¬ (241 : Int32) < 0 by decide, okO_mul, gC_mul, gN_mul, Nat.reduceMul, false_and, and_false, show (nI 6).toNatClampNeg = 6 by decide, show ¬ nI 6 < 0 by decide]
  have s3 := s2
  have s4 := s3.arr (k := 2) (t := 100) (len := 6) (by decide) rfl rfl (Or.inr rfl) (by decide) (by decide)
  have s5 := s4.arr (k := 3) (t := 100) (len := 32) (by decide) rfl rfl (Or.inr rfl) (by decide) (by decide)
  have s6 := s5.int (k := 4) (v := 0)
  have s7 := s6.int (k := 5) (v := 0)
  have s8 := s7.int (k := 6) (v := (-1))
  exact s8.fin rfl (by decide) (by decide) (by
    funext j
    unfold kI
    by_cases e6 : j = 6
    · subst e6; rfl
    simp [e6]) (Or.inl rfl)
set_option maxRecDepth 100000 in
set_option maxHeartbeats 4000000 in
theorem r_i9 (hn : gN G = 4) (hc : okO G 3 9) (h0 : I 3 = fun _ => 0) (ht : gL G 100013 = 4 ∧ gL G 100016 = 6) : KQ E (d + 3) mX9_init 3 15 (11, 79) G I := by
  have hd0 : 0 < d + 3 := Nat.succ_pos _
  refine Ct.run okX9_init TQX9_init [] 300 rfl rfl ?_
  have s0 := SB.base (r := 0) hn (by decide) hc.2 h0
  simp only [↓tQX9_init, ↓opPush, ↓opILoad, ↓opLLoad, ↓opALoad, ↓opIStore, ↓opAStore, ↓opLStore, ↓opIInc, ↓opI1, ↓opII, ↓opID, ↓opLL, ↓opLD, ↓opLI, ↓opI2L, ↓opL2I, ↓opLcmp, ↓opDup, ↓opDupX1, ↓opDup2, ↓opPop, ↓opIf1, ↓opIf2, ↓opGoto, ↓opIRet, ↓opZRet, ↓opLRet, ↓opVRet, ↓opGetI, ↓opGetL, ↓opGetR, ↓opPutI, ↓opPutZ, ↓opPutL, ↓opPutR, ↓opIALoad, ↓opBALoad, ↓opZALoad, ↓opLALoad, ↓opAALoad, ↓opIAStore, ↓opZAStore, ↓opLAStore, ↓opALen, ↓opGetS, ↓opGetC, ↓opStrV, ↓opStrC, ↓opCallV, ↓opCallS, ↓opSw, ↓opCopy, ↓opCallT, ↓opBRet, ↓opObjI, ↓opNew, ↓opNewA, ↓opANew, ↓opAAStore, ↓opMNew, ↓opCallI, ↓wp_s, ↓wp_0, ↓popI_c, ↓popL_c, ↓popR_c, ↓pop1_i, ↓pop1_r, ↓ldI_0, ↓ldI_s, ↓ldL_0, ↓ldL_s, ↓ldR_0, ↓ldR_s, ↓stL_0, ↓stL_s, ↓tk_0, ↓tk_s, ↓Kc_s, ↓Kc_n, isS_0, isS_s, asP_c, gi_0, gi_s, noL_0, noL_s, isW_n, isW_i, isW_r, rcv_c, rcvT_c, swK_0, swK_s, catS, or_false, false_or, not_false_eq_true, not_true_eq_false, true_implies, false_implies, and_true, true_and, ↓reduceIte, Nat.reduceAdd, Nat.reduceLT, Nat.reduceLeDiff, Nat.reduceEqDiff, Nat.reduceSub, forall_const, eq_self, and_self, or_true, true_or, ↓opCallQ, ↓opLp, rcvQ_c, lve_i, lve_r, lve_l, lve_0, List.replicate_succ, List.replicate_zero, mX, mX9_init, hd0, hc, hc.2, okO_gpP, okO_nwE, gC_gpP, gC_nwE, gN_gpP, gN_nw, hn, show (4 : Int32).toNatClampNeg = 4 by decide, show ¬ (4 : Int32) < 0 by decide, show nfl 5 = 4 from rfl, show nfl 8 = 6 from rfl]
  have f1 := s0.fresh 8
  refine ⟨_, (7, 65), _, (3, 8), rfl, by decide, by decide, r_i8_4 (d := d) f1.1 f1.2.1 f1.2.2, fun r G1 I1 h => ?_⟩
  obtain ⟨rfl, hD1⟩ := h
  have hc1 := s0.okD hD1
  have s1 := s0.sub (k := 0) hD1 (by decide)
  simp only [↓tQX9_init, ↓opPush, ↓opILoad, ↓opLLoad, ↓opALoad, ↓opIStore, ↓opAStore, ↓opLStore, ↓opIInc, ↓opI1, ↓opII, ↓opID, ↓opLL, ↓opLD, ↓opLI, ↓opI2L, ↓opL2I, ↓opLcmp, ↓opDup, ↓opDupX1, ↓opDup2, ↓opPop, ↓opIf1, ↓opIf2, ↓opGoto, ↓opIRet, ↓opZRet, ↓opLRet, ↓opVRet, ↓opGetI, ↓opGetL, ↓opGetR, ↓opPutI, ↓opPutZ, ↓opPutL, ↓opPutR, ↓opIALoad, ↓opBALoad, ↓opZALoad, ↓opLALoad, ↓opAALoad, ↓opIAStore, ↓opZAStore, ↓opLAStore, ↓opALen, ↓opGetS, ↓opGetC, ↓opStrV, ↓opStrC, ↓opCallV, ↓opCallS, ↓opSw, ↓opCopy, ↓opCallT, ↓opBRet, ↓opObjI, ↓opNew, ↓opNewA, ↓opANew, ↓opAAStore, ↓opMNew, ↓opCallI, ↓wp_s, ↓wp_0, ↓popI_c, ↓popL_c, ↓popR_c, ↓pop1_i, ↓pop1_r, ↓ldI_0, ↓ldI_s, ↓ldL_0, ↓ldL_s, ↓ldR_0, ↓ldR_s, ↓stL_0, ↓stL_s, ↓tk_0, ↓tk_s, ↓Kc_s, ↓Kc_n, isS_0, isS_s, asP_c, gi_0, gi_s, noL_0, noL_s, isW_n, isW_i, isW_r, rcv_c, rcvT_c, swK_0, swK_s, catS, or_false, false_or, not_false_eq_true, not_true_eq_false, true_implies, false_implies, and_true, true_and, ↓reduceIte, Nat.reduceAdd, Nat.reduceLT, Nat.reduceLeDiff, Nat.reduceEqDiff, Nat.reduceSub, forall_const, eq_self, and_self, or_true, true_or, ↓opCallQ, ↓opLp, rcvQ_c, hd0, hc1, hc1.2, okO_gpP, okO_nwE, gC_gpP, gC_nwE, gN_gpP, gN_nw, hD1.2.1, show (4 : Int32).toNatClampNeg = 4 by decide, show ¬ (4 : Int32) < 0 by decide, show nfl 5 = 4 from rfl, show nfl 8 = 6 from rfl]
  have f2 := s1.fresh 5
  refine ⟨_, (1, 0), _, (1, 4), rfl, by decide, by decide, r_i5_12 (d := d + 1) f2.1 f2.2.1 f2.2.2, fun r G2 I2 h => ?_⟩
  obtain ⟨rfl, hD2⟩ := h
  have hc2 := s1.okD hD2
  have s2 := s1.sub (k := 1) hD2 (by decide)
  simp only [↓tQX9_init, ↓opPush, ↓opILoad, ↓opLLoad, ↓opALoad, ↓opIStore, ↓opAStore, ↓opLStore, ↓opIInc, ↓opI1, ↓opII, ↓opID, ↓opLL, ↓opLD, ↓opLI, ↓opI2L, ↓opL2I, ↓opLcmp, ↓opDup, ↓opDupX1, ↓opDup2, ↓opPop, ↓opIf1, ↓opIf2, ↓opGoto, ↓opIRet, ↓opZRet, ↓opLRet, ↓opVRet, ↓opGetI, ↓opGetL, ↓opGetR, ↓opPutI, ↓opPutZ, ↓opPutL, ↓opPutR, ↓opIALoad, ↓opBALoad, ↓opZALoad, ↓opLALoad, ↓opAALoad, ↓opIAStore, ↓opZAStore, ↓opLAStore, ↓opALen, ↓opGetS, ↓opGetC, ↓opStrV, ↓opStrC, ↓opCallV, ↓opCallS, ↓opSw, ↓opCopy, ↓opCallT, ↓opBRet, ↓opObjI, ↓opNew, ↓opNewA, ↓opANew, ↓opAAStore, ↓opMNew, ↓opCallI, ↓wp_s, ↓wp_0, ↓popI_c, ↓popL_c, ↓popR_c, ↓pop1_i, ↓pop1_r, ↓ldI_0, ↓ldI_s, ↓ldL_0, ↓ldL_s, ↓ldR_0, ↓ldR_s, ↓stL_0, ↓stL_s, ↓tk_0, ↓tk_s, ↓Kc_s, ↓Kc_n, isS_0, isS_s, asP_c, gi_0, gi_s, noL_0, noL_s, isW_n, isW_i, isW_r, rcv_c, rcvT_c, swK_0, swK_s, catS, or_false, false_or, not_false_eq_true, not_true_eq_false, true_implies, false_implies, and_true, true_and, ↓reduceIte, Nat.reduceAdd, Nat.reduceLT, Nat.reduceLeDiff, Nat.reduceEqDiff, Nat.reduceSub, forall_const, eq_self, and_self, or_true, true_or, ↓opCallQ, ↓opLp, rcvQ_c, hd0, hc2, hc2.2, okO_gpP, okO_nwE, gC_gpP, gC_nwE, gN_gpP, gN_nw, hD2.2.1, show (4 : Int32).toNatClampNeg = 4 by decide, show ¬ (4 : Int32) < 0 by decide, show nfl 5 = 4 from rfl, show nfl 8 = 6 from rfl]
  have hl3 : gL _ 100013 = 4 := (s2.2.2.1 100013 (Or.inr (by decide))).2.1.trans ht.1
  refine ⟨_, _, _, _, rfl, c_strLen (a := 100007) (n := 4) (by decide) hl3, ?_⟩
  simp only [↓tQX9_init, ↓opPush, ↓opILoad, ↓opLLoad, ↓opALoad, ↓opIStore, ↓opAStore, ↓opLStore, ↓opIInc, ↓opI1, ↓opII, ↓opID, ↓opLL, ↓opLD, ↓opLI, ↓opI2L, ↓opL2I, ↓opLcmp, ↓opDup, ↓opDupX1, ↓opDup2, ↓opPop, ↓opIf1, ↓opIf2, ↓opGoto, ↓opIRet, ↓opZRet, ↓opLRet, ↓opVRet, ↓opGetI, ↓opGetL, ↓opGetR, ↓opPutI, ↓opPutZ, ↓opPutL, ↓opPutR, ↓opIALoad, ↓opBALoad, ↓opZALoad, ↓opLALoad, ↓opAALoad, ↓opIAStore, ↓opZAStore, ↓opLAStore, ↓opALen, ↓opGetS, ↓opGetC, ↓opStrV, ↓opStrC, ↓opCallV, ↓opCallS, ↓opSw, ↓opCopy, ↓opCallT, ↓opBRet, ↓opObjI, ↓opNew, ↓opNewA, ↓opANew, ↓opAAStore, ↓opMNew, ↓opCallI, ↓wp_s, ↓wp_0, ↓popI_c, ↓popL_c, ↓popR_c, ↓pop1_i, ↓pop1_r, ↓ldI_0, ↓ldI_s, ↓ldL_0, ↓ldL_s, ↓ldR_0, ↓ldR_s, ↓stL_0, ↓stL_s, ↓tk_0, ↓tk_s, ↓Kc_s, ↓Kc_n, isS_0, isS_s, asP_c, gi_0, gi_s, noL_0, noL_s, isW_n, isW_i, isW_r, rcv_c, rcvT_c, swK_0, swK_s, catS, or_false, false_or, not_false_eq_true, not_true_eq_false, true_implies, false_implies, and_true, true_and, ↓reduceIte, Nat.reduceAdd, Nat.reduceLT, Nat.reduceLeDiff, Nat.reduceEqDiff, Nat.reduceSub, forall_const, eq_self, and_self, or_true, true_or, ↓opCallQ, ↓opLp, rcvQ_c, hd0, hc2, hc2.2, okO_gpP, okO_nwE, gC_gpP, gC_nwE, gN_gpP, gN_nw, hD2.2.1, show (4 : Int32).toNatClampNeg = 4 by decide, show ¬ (4 : Int32) < 0 by decide, show nfl 5 = 4 from rfl, show nfl 8 = 6 from rfl, show (nI 4).toNatClampNeg = 4 by decide, show ¬ nI 4 < 0 by decide]
  have s3 := s2
  have s4 := s3.arr (k := 2) (t := 100) (len := 4) (by decide) rfl rfl (Or.inr rfl) (by decide) (by decide)
  have s5 := s4.int (k := 3) (v := 0)
  exact s5.fin rfl (by decide) (by decide) ((kI_z (by decide)).trans (by funext j; simp)) (Or.inl rfl)
set_option maxRecDepth 100000 in
set_option maxHeartbeats 4000000 in
theorem r_i0 (hn : gN G = 46) (hc : okO G 45 0) (h0 : I 45 = fun _ => 0) : KQ E (d + 2) mX0_init 45 247 (201, 2240) G I := by
  have hd0 : 0 < d + 2 := Nat.succ_pos _
  have key : ∀ m k, k + m = 40 → ∀ (b : Nat × Nat) (G1 : GD) (I1 : IM), 5 * m ≤ b.1 → 55 * m ≤ b.2 → SB 46 45 (47 + 5 * k) 0 G I [(0, 46)] (fun j => if j = 2 then 0 else (fun j => if j = 1 then 0 else (fun _ => 0) j) j) G1 I1 → (∀ i, i < k → gP G1 46 i = some (47 + 5 * i)) → Ex E (d + 2) mX0_init (fun r G' I' => r = none ∧ Done 45 247 G I G' I') 25 [some (.ref 45), some (.int (nI k))] [] b G1 I1 := by
    intro m
    induction m with
    | zero =>
      intro k hk b G1 I1 hb1 hb2 hs hp
      obtain rfl : k = 40 := by omega
      have o1 : okO G1 45 0 := ⟨by rw [hs.2.1]; decide, hs.2.2.2.1⟩
      have o2 := hs.2.2.2.2.1 (0, 46) (by decide)
      have o3 := hs.2.2.2.2.2.2 46 (by decide) (by decide)
      have o4 : okO G1 46 104 := ⟨by rw [hs.2.1]; decide, o3.1⟩
      have o5 : gL G1 46 = 40 := o3.2.1 (by decide)
      refine Ex.run TQX0_init [] 60 ?_
      simp only [↓tQX0_init, ↓opPush, ↓opILoad, ↓opLLoad, ↓opALoad, ↓opIStore, ↓opAStore, ↓opLStore, ↓opIInc, ↓opI1, ↓opII, ↓opID, ↓opLL, ↓opLD, ↓opLI, ↓opI2L, ↓opL2I, ↓opLcmp, ↓opDup, ↓opDupX1, ↓opDup2, ↓opPop, ↓opIf1, ↓opIf2, ↓opGoto, ↓opIRet, ↓opZRet, ↓opLRet, ↓opVRet, ↓opGetI, ↓opGetL, ↓opGetR, ↓opPutI, ↓opPutZ, ↓opPutL, ↓opPutR, ↓opIALoad, ↓opBALoad, ↓opZALoad, ↓opLALoad, ↓opAALoad, ↓opIAStore, ↓opZAStore, ↓opLAStore, ↓opALen, ↓opGetS, ↓opGetC, ↓opStrV, ↓opStrC, ↓opCallV, ↓opCallS, ↓opSw, ↓opCopy, ↓opCallT, ↓opBRet, ↓opObjI, ↓opNew, ↓opNewA, ↓opANew, ↓opAAStore, ↓opMNew, ↓opCallI, ↓wp_s, ↓wp_0, ↓popI_c, ↓popL_c, ↓popR_c, ↓pop1_i, ↓pop1_r, ↓ldI_0, ↓ldI_s, ↓ldL_0, ↓ldL_s, ↓ldR_0, ↓ldR_s, ↓stL_0, ↓stL_s, ↓tk_0, ↓tk_s, ↓Kc_s, ↓Kc_n, isS_0, isS_s, asP_c, gi_0, gi_s, noL_0, noL_s, isW_n, isW_i, isW_r, rcv_c, rcvT_c, swK_0, swK_s, catS, or_false, false_or, not_false_eq_true, not_true_eq_false, true_implies, false_implies, and_true, true_and, ↓reduceIte, Nat.reduceAdd, Nat.reduceLT, Nat.reduceLeDiff, Nat.reduceEqDiff, Nat.reduceSub, forall_const, eq_self, and_self, or_true, true_or, ↓opCallQ, ↓opLp, rcvQ_c, o1, ↓asP_h o2, o4, o5, show nI 40 ≤ nI 40 by decide, show 40 ≤ nI 40 by decide]
      refine hs.fin rfl (by decide) (by decide) ((kI_z (by decide)).trans (by funext j; simp)) (Or.inr (fun k q z => ?_))
      have hm := (show ∀ x ∈ tblP.getD 46 [], x.1 < 40 ∧ x.2 = 47 + 5 * x.1 by decide) _ (lkP_mem z)
      have hm2 : q = 47 + 5 * k := hm.2
      rw [hp k hm.1, hm2]
    | succ m ih =>
      intro k hk b G1 I1 hb1 hb2 hs hp
      have hk' : k < 40 := by omega
      have e1 : (nI k).toNatClampNeg = k := nI_clamp (by omega)
      have e2 : vp_in (nI k) 40 := vp_in_nI hk' (by omega)
      have e3 := lpF (N := 40) (n := 40) (k := k) rfl hk' (by decide)
      have e4 := lpF (N := nI 40) (n := 40) (k := k) rfl hk' (by decide)
      have o1 : okO G1 45 0 := ⟨by rw [hs.2.1]; omega, hs.2.2.2.1⟩
      have o2 := hs.2.2.2.2.1 (0, 46) (by decide)
      have o3 := hs.2.2.2.2.2.2 46 (by decide) (by omega)
      have o4 : okO G1 46 104 := ⟨by rw [hs.2.1]; omega, o3.1⟩
      have o5 : gL G1 46 = 40 := o3.2.1 (by decide)
      have z1 : 47 + 5 * k < 100000 := by omega
      have z2 : 1 ≤ b.1 := by omega
      have z3 : nfl 6 ≤ b.2 := by show 7 ≤ b.2; omega
      have f1 := hs.fresh 6
      refine Ex.run TQX0_init [25] 60 ?_
      simp only [↓tQX0_init, ↓opPush, ↓opILoad, ↓opLLoad, ↓opALoad, ↓opIStore, ↓opAStore, ↓opLStore, ↓opIInc, ↓opI1, ↓opII, ↓opID, ↓opLL, ↓opLD, ↓opLI, ↓opI2L, ↓opL2I, ↓opLcmp, ↓opDup, ↓opDupX1, ↓opDup2, ↓opPop, ↓opIf1, ↓opIf2, ↓opGoto, ↓opIRet, ↓opZRet, ↓opLRet, ↓opVRet, ↓opGetI, ↓opGetL, ↓opGetR, ↓opPutI, ↓opPutZ, ↓opPutL, ↓opPutR, ↓opIALoad, ↓opBALoad, ↓opZALoad, ↓opLALoad, ↓opAALoad, ↓opIAStore, ↓opZAStore, ↓opLAStore, ↓opALen, ↓opGetS, ↓opGetC, ↓opStrV, ↓opStrC, ↓opCallV, ↓opCallS, ↓opSw, ↓opCopy, ↓opCallT, ↓opBRet, ↓opObjI, ↓opNew, ↓opNewA, ↓opANew, ↓opAAStore, ↓opMNew, ↓opCallI, ↓wp_s, ↓wp_0, ↓popI_c, ↓popL_c, ↓popR_c, ↓pop1_i, ↓pop1_r, ↓ldI_0, ↓ldI_s, ↓ldL_0, ↓ldL_s, ↓ldR_0, ↓ldR_s, ↓stL_0, ↓stL_s, ↓tk_0, ↓tk_s, ↓Kc_s, ↓Kc_n, isS_0, isS_s, asP_c, gi_0, gi_s, noL_0, noL_s, isW_n, isW_i, isW_r, rcv_c, rcvT_c, swK_0, swK_s, catS, or_false, false_or, not_false_eq_true, not_true_eq_false, true_implies, false_implies, and_true, true_and, ↓reduceIte, Nat.reduceAdd, Nat.reduceLT, Nat.reduceLeDiff, Nat.reduceEqDiff, Nat.reduceSub, forall_const, eq_self, and_self, or_true, true_or, ↓opCallQ, ↓opLp, rcvQ_c, o1, ↓asP_h o2, o4, o5, e1, e2, e3, e4, hs.2.1, z1, z2, z3]
      refine ⟨_, (4, 48), _, (b.1 - 5, b.2 - 55), rfl, by show 4 + (b.1 - 5) ≤ b.1 - 1; omega, by show 48 + (b.2 - 55) ≤ b.2 - 7; omega, r_i6 (a := 47 + 5 * k) (d := d + 0) (of_decide_eq_true ((show ∀ i, i < 40 → st6b (47 + 5 * i) = true by decide +kernel) k hk')) (by omega) f1.1 f1.2.1 f1.2.2, fun r G2 I2 h => ?_⟩
      obtain ⟨rfl, hD⟩ := h
      obtain ⟨t1, t2⟩ := hs.elt (j := k) hD (by decide) (by omega) (f := fun i => 47 + 5 * i) hp rfl
      have u1 : okO G2 46 104 := ⟨by rw [hD.2.1]; omega, (t1.2.2.2.2.2.2 46 (by decide) (by omega)).1⟩
      have u2 : okO G2 (47 + 5 * k) 6 := ⟨by rw [hD.2.1]; omega, (hD.2.2.2 _ (Nat.le_refl _) (by omega)).1.trans ((show ∀ i, i < 40 → kC (47 + 5 * i) = 6 by decide +kernel) k hk')⟩
      have u3 : gL G2 46 = 40 := (t1.2.2.2.2.2.2 46 (by decide) (by omega)).2.1 (by decide)
      simp only [↓tQX0_init, ↓opPush, ↓opILoad, ↓opLLoad, ↓opALoad, ↓opIStore, ↓opAStore, ↓opLStore, ↓opIInc, ↓opI1, ↓opII, ↓opID, ↓opLL, ↓opLD, ↓opLI, ↓opI2L, ↓opL2I, ↓opLcmp, ↓opDup, ↓opDupX1, ↓opDup2, ↓opPop, ↓opIf1, ↓opIf2, ↓opGoto, ↓opIRet, ↓opZRet, ↓opLRet, ↓opVRet, ↓opGetI, ↓opGetL, ↓opGetR, ↓opPutI, ↓opPutZ, ↓opPutL, ↓opPutR, ↓opIALoad, ↓opBALoad, ↓opZALoad, ↓opLALoad, ↓opAALoad, ↓opIAStore, ↓opZAStore, ↓opLAStore, ↓opALen, ↓opGetS, ↓opGetC, ↓opStrV, ↓opStrC, ↓opCallV, ↓opCallS, ↓opSw, ↓opCopy, ↓opCallT, ↓opBRet, ↓opObjI, ↓opNew, ↓opNewA, ↓opANew, ↓opAAStore, ↓opMNew, ↓opCallI, ↓wp_s, ↓wp_0, ↓popI_c, ↓popL_c, ↓popR_c, ↓pop1_i, ↓pop1_r, ↓ldI_0, ↓ldI_s, ↓ldL_0, ↓ldL_s, ↓ldR_0, ↓ldR_s, ↓stL_0, ↓stL_s, ↓tk_0, ↓tk_s, ↓Kc_s, ↓Kc_n, isS_0, isS_s, asP_c, gi_0, gi_s, noL_0, noL_s, isW_n, isW_i, isW_r, rcv_c, rcvT_c, swK_0, swK_s, catS, or_false, false_or, not_false_eq_true, not_true_eq_false, true_implies, false_implies, and_true, true_and, ↓reduceIte, Nat.reduceAdd, Nat.reduceLT, Nat.reduceLeDiff, Nat.reduceEqDiff, Nat.reduceSub, forall_const, eq_self, and_self, or_true, true_or, ↓opCallQ, ↓opLp, rcvQ_c, u1, u2, u3, e1, e2]
      have h9 := ih (k + 1) (by omega) (b.1 - 5, b.2 - 55) _ _ (by show 5 * m ≤ b.1 - 5; omega) (by show 55 * m ≤ b.2 - 55; omega) t1 t2
      rw [nI_succ] at h9
      exact h9
  refine Ct.run okX0_init TQX0_init [25] 300 rfl rfl ?_
  have s0 := SB.base (r := 46) hn (by decide) hc.2 h0
  simp only [↓tQX0_init, ↓opPush, ↓opILoad, ↓opLLoad, ↓opALoad, ↓opIStore, ↓opAStore, ↓opLStore, ↓opIInc, ↓opI1, ↓opII, ↓opID, ↓opLL, ↓opLD, ↓opLI, ↓opI2L, ↓opL2I, ↓opLcmp, ↓opDup, ↓opDupX1, ↓opDup2, ↓opPop, ↓opIf1, ↓opIf2, ↓opGoto, ↓opIRet, ↓opZRet, ↓opLRet, ↓opVRet, ↓opGetI, ↓opGetL, ↓opGetR, ↓opPutI, ↓opPutZ, ↓opPutL, ↓opPutR, ↓opIALoad, ↓opBALoad, ↓opZALoad, ↓opLALoad, ↓opAALoad, ↓opIAStore, ↓opZAStore, ↓opLAStore, ↓opALen, ↓opGetS, ↓opGetC, ↓opStrV, ↓opStrC, ↓opCallV, ↓opCallS, ↓opSw, ↓opCopy, ↓opCallT, ↓opBRet, ↓opObjI, ↓opNew, ↓opNewA, ↓opANew, ↓opAAStore, ↓opMNew, ↓opCallI, ↓wp_s, ↓wp_0, ↓popI_c, ↓popL_c, ↓popR_c, ↓pop1_i, ↓pop1_r, ↓ldI_0, ↓ldI_s, ↓ldL_0, ↓ldL_s, ↓ldR_0, ↓ldR_s, ↓stL_0, ↓stL_s, ↓tk_0, ↓tk_s, ↓Kc_s, ↓Kc_n, isS_0, isS_s, asP_c, gi_0, gi_s, noL_0, noL_s, isW_n, isW_i, isW_r, rcv_c, rcvT_c, swK_0, swK_s, catS, or_false, false_or, not_false_eq_true, not_true_eq_false, true_implies, false_implies, and_true, true_and, ↓reduceIte, Nat.reduceAdd, Nat.reduceLT, Nat.reduceLeDiff, Nat.reduceEqDiff, Nat.reduceSub, forall_const, eq_self, and_self, or_true, true_or, ↓opCallQ, ↓opLp, rcvQ_c, lve_i, lve_r, lve_l, lve_0, List.replicate_succ, List.replicate_zero, mX, mX0_init, hd0, hc, hc.2, okO_gpP, okO_nwE, gC_gpP, gC_nwE, gN_gpP, gN_nw, hn, show (40 : Int32).toNatClampNeg = 40 by decide, show ¬ (40 : Int32) < 0 by decide]
  have s1 := s0.arr (k := 0) (t := 104) (len := 40) (by decide) rfl rfl (Or.inl rfl) (by decide) (by decide)
  have s2 := s1.int (k := 1) (v := 0)
  have s3 := s2.int (k := 2) (v := 0)
  exact key 40 0 rfl _ _ _ (by decide) (by decide) s3 (fun i hi => absurd hi (by omega))
set_option maxRecDepth 100000 in
set_option maxHeartbeats 4000000 in
theorem r_i10 (hn : gN G = 1) (hc : okO G 0 10) (h0 : I 0 = fun _ => 0) (ht : gL G 100013 = 4 ∧ gL G 100016 = 6) : KQ E (d + 4) mX10_init 0 311 (310, 5220) G I := by
  have hd0 : 0 < d + 4 := Nat.succ_pos _
  have key : ∀ m k, k + m = 9 → ∀ (b : Nat × Nat) (G1 : GD) (I1 : IM), 5 * m ≤ b.1 → 55 * m ≤ b.2 → SB 263 0 (266 + 5 * k) 10 G I [(14, 265), (13, 264), (12, 263), (11, 262), (10, 256), (9, 252), (8, 247), (7, 45), (6, 41), (5, 36), (4, 27), (3, 23), (2, 15), (1, 3), (0, 1)] (fun j => if j = 16 then 2 else (fun j => if j = 15 then 0 else (fun _ => 0) j) j) G1 I1 → (∀ i, i < k → gP G1 263 i = some (266 + 5 * i)) → Ex E (d + 4) mX10_init (fun r G' I' => r = none ∧ Done 0 311 G I G' I') 169 [some (.ref 0), some (.int (nI k))] [] b G1 I1 := by
    intro m
    induction m with
    | zero =>
      intro k hk b G1 I1 hb1 hb2 hs hp
      obtain rfl : k = 9 := by omega
      have o1 : okO G1 0 10 := ⟨by rw [hs.2.1]; decide, hs.2.2.2.1⟩
      have o2 := hs.2.2.2.2.1 (12, 263) (by decide)
      have o3 := hs.2.2.2.2.2.2 263 (by decide) (by decide)
      have o4 : okO G1 263 104 := ⟨by rw [hs.2.1]; decide, o3.1⟩
      have o5 : gL G1 263 = 9 := o3.2.1 (by decide)
      refine Ex.run TQX10_init [] 60 ?_
      simp only [↓tQX10_init, ↓opPush, ↓opILoad, ↓opLLoad, ↓opALoad, ↓opIStore, ↓opAStore, ↓opLStore, ↓opIInc, ↓opI1, ↓opII, ↓opID, ↓opLL, ↓opLD, ↓opLI, ↓opI2L, ↓opL2I, ↓opLcmp, ↓opDup, ↓opDupX1, ↓opDup2, ↓opPop, ↓opIf1, ↓opIf2, ↓opGoto, ↓opIRet, ↓opZRet, ↓opLRet, ↓opVRet, ↓opGetI, ↓opGetL, ↓opGetR, ↓opPutI, ↓opPutZ, ↓opPutL, ↓opPutR, ↓opIALoad, ↓opBALoad, ↓opZALoad, ↓opLALoad, ↓opAALoad, ↓opIAStore, ↓opZAStore, ↓opLAStore, ↓opALen, ↓opGetS, ↓opGetC, ↓opStrV, ↓opStrC, ↓opCallV, ↓opCallS, ↓opSw, ↓opCopy, ↓opCallT, ↓opBRet, ↓opObjI, ↓opNew, ↓opNewA, ↓opANew, ↓opAAStore, ↓opMNew, ↓opCallI, ↓wp_s, ↓wp_0, ↓popI_c, ↓popL_c, ↓popR_c, ↓pop1_i, ↓pop1_r, ↓ldI_0, ↓ldI_s, ↓ldL_0, ↓ldL_s, ↓ldR_0, ↓ldR_s, ↓stL_0, ↓stL_s, ↓tk_0, ↓tk_s, ↓Kc_s, ↓Kc_n, isS_0, isS_s, asP_c, gi_0, gi_s, noL_0, noL_s, isW_n, isW_i, isW_r, rcv_c, rcvT_c, swK_0, swK_s, catS, or_false, false_or, not_false_eq_true, not_true_eq_false, true_implies, false_implies, and_true, true_and, ↓reduceIte, Nat.reduceAdd, Nat.reduceLT, Nat.reduceLeDiff, Nat.reduceEqDiff, Nat.reduceSub, forall_const, eq_self, and_self, or_true, true_or, ↓opCallQ, ↓opLp, rcvQ_c, o1, ↓asP_h o2, o4, o5, show nI 9 ≤ nI 9 by decide, show 9 ≤ nI 9 by decide]
      refine hs.fin rfl (by decide) (by decide) (by
        funext j
        unfold kI
        by_cases e16 : j = 16
        · subst e16; rfl
        simp [e16]) (Or.inr (fun k q z => ?_))
      have hm := (show ∀ x ∈ tblP.getD 263 [], x.1 < 9 ∧ x.2 = 266 + 5 * x.1 by decide) _ (lkP_mem z)
      have hm2 : q = 266 + 5 * k := hm.2
      rw [hp k hm.1, hm2]
    | succ m ih =>
      intro k hk b G1 I1 hb1 hb2 hs hp
      have hk' : k < 9 := by omega
      have e1 : (nI k).toNatClampNeg = k := nI_clamp (by omega)
      have e2 : vp_in (nI k) 9 := vp_in_nI hk' (by omega)
      have e3 := lpF (N := 9) (n := 9) (k := k) rfl hk' (by decide)
      have e4 := lpF (N := nI 9) (n := 9) (k := k) rfl hk' (by decide)
      have o1 : okO G1 0 10 := ⟨by rw [hs.2.1]; omega, hs.2.2.2.1⟩
      have o2 := hs.2.2.2.2.1 (12, 263) (by decide)
      have o3 := hs.2.2.2.2.2.2 263 (by decide) (by omega)
      have o4 : okO G1 263 104 := ⟨by rw [hs.2.1]; omega, o3.1⟩
      have o5 : gL G1 263 = 9 := o3.2.1 (by decide)
      have z1 : 266 + 5 * k < 100000 := by omega
      have z2 : 1 ≤ b.1 := by omega
      have z3 : nfl 6 ≤ b.2 := by show 7 ≤ b.2; omega
      have f1 := hs.fresh 6
      refine Ex.run TQX10_init [169] 60 ?_
      simp only [↓tQX10_init, ↓opPush, ↓opILoad, ↓opLLoad, ↓opALoad, ↓opIStore, ↓opAStore, ↓opLStore, ↓opIInc, ↓opI1, ↓opII, ↓opID, ↓opLL, ↓opLD, ↓opLI, ↓opI2L, ↓opL2I, ↓opLcmp, ↓opDup, ↓opDupX1, ↓opDup2, ↓opPop, ↓opIf1, ↓opIf2, ↓opGoto, ↓opIRet, ↓opZRet, ↓opLRet, ↓opVRet, ↓opGetI, ↓opGetL, ↓opGetR, ↓opPutI, ↓opPutZ, ↓opPutL, ↓opPutR, ↓opIALoad, ↓opBALoad, ↓opZALoad, ↓opLALoad, ↓opAALoad, ↓opIAStore, ↓opZAStore, ↓opLAStore, ↓opALen, ↓opGetS, ↓opGetC, ↓opStrV, ↓opStrC, ↓opCallV, ↓opCallS, ↓opSw, ↓opCopy, ↓opCallT, ↓opBRet, ↓opObjI, ↓opNew, ↓opNewA, ↓opANew, ↓opAAStore, ↓opMNew, ↓opCallI, ↓wp_s, ↓wp_0, ↓popI_c, ↓popL_c, ↓popR_c, ↓pop1_i, ↓pop1_r, ↓ldI_0, ↓ldI_s, ↓ldL_0, ↓ldL_s, ↓ldR_0, ↓ldR_s, ↓stL_0, ↓stL_s, ↓tk_0, ↓tk_s, ↓Kc_s, ↓Kc_n, isS_0, isS_s, asP_c, gi_0, gi_s, noL_0, noL_s, isW_n, isW_i, isW_r, rcv_c, rcvT_c, swK_0, swK_s, catS, or_false, false_or, not_false_eq_true, not_true_eq_false, true_implies, false_implies, and_true, true_and, ↓reduceIte, Nat.reduceAdd, Nat.reduceLT, Nat.reduceLeDiff, Nat.reduceEqDiff, Nat.reduceSub, forall_const, eq_self, and_self, or_true, true_or, ↓opCallQ, ↓opLp, rcvQ_c, o1, ↓asP_h o2, o4, o5, e1, e2, e3, e4, hs.2.1, z1, z2, z3]
      refine ⟨_, (4, 48), _, (b.1 - 5, b.2 - 55), rfl, by show 4 + (b.1 - 5) ≤ b.1 - 1; omega, by show 48 + (b.2 - 55) ≤ b.2 - 7; omega, r_i6 (a := 266 + 5 * k) (d := d + 2) (of_decide_eq_true ((show ∀ i, i < 9 → st6b (266 + 5 * i) = true by decide +kernel) k hk')) (by omega) f1.1 f1.2.1 f1.2.2, fun r G2 I2 h => ?_⟩
      obtain ⟨rfl, hD⟩ := h
      obtain ⟨t1, t2⟩ := hs.elt (j := k) hD (by decide) (by omega) (f := fun i => 266 + 5 * i) hp rfl
      have u1 : okO G2 263 104 := ⟨by rw [hD.2.1]; omega, (t1.2.2.2.2.2.2 263 (by decide) (by omega)).1⟩
      have u2 : okO G2 (266 + 5 * k) 6 := ⟨by rw [hD.2.1]; omega, (hD.2.2.2 _ (Nat.le_refl _) (by omega)).1.trans ((show ∀ i, i < 9 → kC (266 + 5 * i) = 6 by decide +kernel) k hk')⟩
      have u3 : gL G2 263 = 9 := (t1.2.2.2.2.2.2 263 (by decide) (by omega)).2.1 (by decide)
      simp only [↓tQX10_init, ↓opPush, ↓opILoad, ↓opLLoad, ↓opALoad, ↓opIStore, ↓opAStore, ↓opLStore, ↓opIInc, ↓opI1, ↓opII, ↓opID, ↓opLL, ↓opLD, ↓opLI, ↓opI2L, ↓opL2I, ↓opLcmp, ↓opDup, ↓opDupX1, ↓opDup2, ↓opPop, ↓opIf1, ↓opIf2, ↓opGoto, ↓opIRet, ↓opZRet, ↓opLRet, ↓opVRet, ↓opGetI, ↓opGetL, ↓opGetR, ↓opPutI, ↓opPutZ, ↓opPutL, ↓opPutR, ↓opIALoad, ↓opBALoad, ↓opZALoad, ↓opLALoad, ↓opAALoad, ↓opIAStore, ↓opZAStore, ↓opLAStore, ↓opALen, ↓opGetS, ↓opGetC, ↓opStrV, ↓opStrC, ↓opCallV, ↓opCallS, ↓opSw, ↓opCopy, ↓opCallT, ↓opBRet, ↓opObjI, ↓opNew, ↓opNewA, ↓opANew, ↓opAAStore, ↓opMNew, ↓opCallI, ↓wp_s, ↓wp_0, ↓popI_c, ↓popL_c, ↓popR_c, ↓pop1_i, ↓pop1_r, ↓ldI_0, ↓ldI_s, ↓ldL_0, ↓ldL_s, ↓ldR_0, ↓ldR_s, ↓stL_0, ↓stL_s, ↓tk_0, ↓tk_s, ↓Kc_s, ↓Kc_n, isS_0, isS_s, asP_c, gi_0, gi_s, noL_0, noL_s, isW_n, isW_i, isW_r, rcv_c, rcvT_c, swK_0, swK_s, catS, or_false, false_or, not_false_eq_true, not_true_eq_false, true_implies, false_implies, and_true, true_and, ↓reduceIte, Nat.reduceAdd, Nat.reduceLT, Nat.reduceLeDiff, Nat.reduceEqDiff, Nat.reduceSub, forall_const, eq_self, and_self, or_true, true_or, ↓opCallQ, ↓opLp, rcvQ_c, u1, u2, u3, e1, e2]
      have h9 := ih (k + 1) (by omega) (b.1 - 5, b.2 - 55) _ _ (by show 5 * m ≤ b.1 - 5; omega) (by show 55 * m ≤ b.2 - 55; omega) t1 t2
      rw [nI_succ] at h9
      exact h9
  refine Ct.run okX10_init TQX10_init [169] 300 rfl rfl ?_
  have s0 := SB.base (r := 263) hn (by decide) hc.2 h0
  simp only [↓tQX10_init, ↓opPush, ↓opILoad, ↓opLLoad, ↓opALoad, ↓opIStore, ↓opAStore, ↓opLStore, ↓opIInc, ↓opI1, ↓opII, ↓opID, ↓opLL, ↓opLD, ↓opLI, ↓opI2L, ↓opL2I, ↓opLcmp, ↓opDup, ↓opDupX1, ↓opDup2, ↓opPop, ↓opIf1, ↓opIf2, ↓opGoto, ↓opIRet, ↓opZRet, ↓opLRet, ↓opVRet, ↓opGetI, ↓opGetL, ↓opGetR, ↓opPutI, ↓opPutZ, ↓opPutL, ↓opPutR, ↓opIALoad, ↓opBALoad, ↓opZALoad, ↓opLALoad, ↓opAALoad, ↓opIAStore, ↓opZAStore, ↓opLAStore, ↓opALen, ↓opGetS, ↓opGetC, ↓opStrV, ↓opStrC, ↓opCallV, ↓opCallS, ↓opSw, ↓opCopy, ↓opCallT, ↓opBRet, ↓opObjI, ↓opNew, ↓opNewA, ↓opANew, ↓opAAStore, ↓opMNew, ↓opCallI, ↓wp_s, ↓wp_0, ↓popI_c, ↓popL_c, ↓popR_c, ↓pop1_i, ↓pop1_r, ↓ldI_0, ↓ldI_s, ↓ldL_0, ↓ldL_s, ↓ldR_0, ↓ldR_s, ↓stL_0, ↓stL_s, ↓tk_0, ↓tk_s, ↓Kc_s, ↓Kc_n, isS_0, isS_s, asP_c, gi_0, gi_s, noL_0, noL_s, isW_n, isW_i, isW_r, rcv_c, rcvT_c, swK_0, swK_s, catS, or_false, false_or, not_false_eq_true, not_true_eq_false, true_implies, false_implies, and_true, true_and, ↓reduceIte, Nat.reduceAdd, Nat.reduceLT, Nat.reduceLeDiff, Nat.reduceEqDiff, Nat.reduceSub, forall_const, eq_self, and_self, or_true, true_or, ↓opCallQ, ↓opLp, rcvQ_c, lve_i, lve_r, lve_l, lve_0, List.replicate_succ, List.replicate_zero, mX, mX10_init, hd0, hc, hc.2, okO_gpP, okO_nwE, gC_gpP, gC_nwE, gN_gpP, gN_nw, hn, show (5 : Int32).toNatClampNeg = 5 by decide, show ¬ (5 : Int32) < 0 by decide, show (9 : Int32).toNatClampNeg = 9 by decide, show ¬ (9 : Int32) < 0 by decide, show nfl 0 = 3 from rfl, show nfl 1 = 4 from rfl, show nfl 2 = 7 from rfl, show nfl 3 = 3 from rfl, show nfl 4 = 6 from rfl, show nfl 6 = 7 from rfl, show nfl 7 = 2 from rfl, show nfl 8 = 6 from rfl, show nfl 9 = 4 from rfl]
  have f1 := s0.fresh 7
  refine ⟨_, (1, 240), _, (308, 4978), rfl, by decide, by decide, r_i7 (d := d + 2) f1.1 f1.2.1 f1.2.2, fun r G1 I1 h => ?_⟩
  obtain ⟨rfl, hD1⟩ := h
  have hc1 := s0.okD hD1
  have s1 := s0.sub (k := 0) hD1 (by decide)
  simp only [↓tQX10_init, ↓opPush, ↓opILoad, ↓opLLoad, ↓opALoad, ↓opIStore, ↓opAStore, ↓opLStore, ↓opIInc, ↓opI1, ↓opII, ↓opID, ↓opLL, ↓opLD, ↓opLI, ↓opI2L, ↓opL2I, ↓opLcmp, ↓opDup, ↓opDupX1, ↓opDup2, ↓opPop, ↓opIf1, ↓opIf2, ↓opGoto, ↓opIRet, ↓opZRet, ↓opLRet, ↓opVRet, ↓opGetI, ↓opGetL, ↓opGetR, ↓opPutI, ↓opPutZ, ↓opPutL, ↓opPutR, ↓opIALoad, ↓opBALoad, ↓opZALoad, ↓opLALoad, ↓opAALoad, ↓opIAStore, ↓opZAStore, ↓opLAStore, ↓opALen, ↓opGetS, ↓opGetC, ↓opStrV, ↓opStrC, ↓opCallV, ↓opCallS, ↓opSw, ↓opCopy, ↓opCallT, ↓opBRet, ↓opObjI, ↓opNew, ↓opNewA, ↓opANew, ↓opAAStore, ↓opMNew, ↓opCallI, ↓wp_s, ↓wp_0, ↓popI_c, ↓popL_c, ↓popR_c, ↓pop1_i, ↓pop1_r, ↓ldI_0, ↓ldI_s, ↓ldL_0, ↓ldL_s, ↓ldR_0, ↓ldR_s, ↓stL_0, ↓stL_s, ↓tk_0, ↓tk_s, ↓Kc_s, ↓Kc_n, isS_0, isS_s, asP_c, gi_0, gi_s, noL_0, noL_s, isW_n, isW_i, isW_r, rcv_c, rcvT_c, swK_0, swK_s, catS, or_false, false_or, not_false_eq_true, not_true_eq_false, true_implies, false_implies, and_true, true_and, ↓reduceIte, Nat.reduceAdd, Nat.reduceLT, Nat.reduceLeDiff, Nat.reduceEqDiff, Nat.reduceSub, forall_const, eq_self, and_self, or_true, true_or, ↓opCallQ, ↓opLp, rcvQ_c, hd0, hc1, hc1.2, okO_gpP, okO_nwE, gC_gpP, gC_nwE, gN_gpP, gN_nw, hD1.2.1, show (5 : Int32).toNatClampNeg = 5 by decide, show ¬ (5 : Int32) < 0 by decide, show (9 : Int32).toNatClampNeg = 9 by decide, show ¬ (9 : Int32) < 0 by decide, show nfl 0 = 3 from rfl, show nfl 1 = 4 from rfl, show nfl 2 = 7 from rfl, show nfl 3 = 3 from rfl, show nfl 4 = 6 from rfl, show nfl 6 = 7 from rfl, show nfl 7 = 2 from rfl, show nfl 8 = 6 from rfl, show nfl 9 = 4 from rfl]
  have f2 := s1.fresh 9
  refine ⟨_, (11, 79), _, (296, 4895), rfl, by decide, by decide, r_i9 (d := d) f2.1 f2.2.1 f2.2.2 (s1.txt 9 ht (by decide)), fun r G2 I2 h => ?_⟩
  obtain ⟨rfl, hD2⟩ := h
  have hc2 := s1.okD hD2
  have s2 := s1.sub (k := 1) hD2 (by decide)
  simp only [↓tQX10_init, ↓opPush, ↓opILoad, ↓opLLoad, ↓opALoad, ↓opIStore, ↓opAStore, ↓opLStore, ↓opIInc, ↓opI1, ↓opII, ↓opID, ↓opLL, ↓opLD, ↓opLI, ↓opI2L, ↓opL2I, ↓opLcmp, ↓opDup, ↓opDupX1, ↓opDup2, ↓opPop, ↓opIf1, ↓opIf2, ↓opGoto, ↓opIRet, ↓opZRet, ↓opLRet, ↓opVRet, ↓opGetI, ↓opGetL, ↓opGetR, ↓opPutI, ↓opPutZ, ↓opPutL, ↓opPutR, ↓opIALoad, ↓opBALoad, ↓opZALoad, ↓opLALoad, ↓opAALoad, ↓opIAStore, ↓opZAStore, ↓opLAStore, ↓opALen, ↓opGetS, ↓opGetC, ↓opStrV, ↓opStrC, ↓opCallV, ↓opCallS, ↓opSw, ↓opCopy, ↓opCallT, ↓opBRet, ↓opObjI, ↓opNew, ↓opNewA, ↓opANew, ↓opAAStore, ↓opMNew, ↓opCallI, ↓wp_s, ↓wp_0, ↓popI_c, ↓popL_c, ↓popR_c, ↓pop1_i, ↓pop1_r, ↓ldI_0, ↓ldI_s, ↓ldL_0, ↓ldL_s, ↓ldR_0, ↓ldR_s, ↓stL_0, ↓stL_s, ↓tk_0, ↓tk_s, ↓Kc_s, ↓Kc_n, isS_0, isS_s, asP_c, gi_0, gi_s, noL_0, noL_s, isW_n, isW_i, isW_r, rcv_c, rcvT_c, swK_0, swK_s, catS, or_false, false_or, not_false_eq_true, not_true_eq_false, true_implies, false_implies, and_true, true_and, ↓reduceIte, Nat.reduceAdd, Nat.reduceLT, Nat.reduceLeDiff, Nat.reduceEqDiff, Nat.reduceSub, forall_const, eq_self, and_self, or_true, true_or, ↓opCallQ, ↓opLp, rcvQ_c, hd0, hc2, hc2.2, okO_gpP, okO_nwE, gC_gpP, gC_nwE, gN_gpP, gN_nw, hD2.2.1, show (5 : Int32).toNatClampNeg = 5 by decide, show ¬ (5 : Int32) < 0 by decide, show (9 : Int32).toNatClampNeg = 9 by decide, show ¬ (9 : Int32) < 0 by decide, show nfl 0 = 3 from rfl, show nfl 1 = 4 from rfl, show nfl 2 = 7 from rfl, show nfl 3 = 3 from rfl, show nfl 4 = 6 from rfl, show nfl 6 = 7 from rfl, show nfl 7 = 2 from rfl, show nfl 8 = 6 from rfl, show nfl 9 = 4 from rfl]
  have f3 := s2.fresh 8
  refine ⟨_, (7, 65), _, (288, 4824), rfl, by decide, by decide, r_i8_15 (d := d + 1) f3.1 f3.2.1 f3.2.2, fun r G3 I3 h => ?_⟩
  obtain ⟨rfl, hD3⟩ := h
  have hc3 := s2.okD hD3
  have s3 := s2.sub (k := 2) hD3 (by decide)
  simp only [↓tQX10_init, ↓opPush, ↓opILoad, ↓opLLoad, ↓opALoad, ↓opIStore, ↓opAStore, ↓opLStore, ↓opIInc, ↓opI1, ↓opII, ↓opID, ↓opLL, ↓opLD, ↓opLI, ↓opI2L, ↓opL2I, ↓opLcmp, ↓opDup, ↓opDupX1, ↓opDup2, ↓opPop, ↓opIf1, ↓opIf2, ↓opGoto, ↓opIRet, ↓opZRet, ↓opLRet, ↓opVRet, ↓opGetI, ↓opGetL, ↓opGetR, ↓opPutI, ↓opPutZ, ↓opPutL, ↓opPutR, ↓opIALoad, ↓opBALoad, ↓opZALoad, ↓opLALoad, ↓opAALoad, ↓opIAStore, ↓opZAStore, ↓opLAStore, ↓opALen, ↓opGetS, ↓opGetC, ↓opStrV, ↓opStrC, ↓opCallV, ↓opCallS, ↓opSw, ↓opCopy, ↓opCallT, ↓opBRet, ↓opObjI, ↓opNew, ↓opNewA, ↓opANew, ↓opAAStore, ↓opMNew, ↓opCallI, ↓wp_s, ↓wp_0, ↓popI_c, ↓popL_c, ↓popR_c, ↓pop1_i, ↓pop1_r, ↓ldI_0, ↓ldI_s, ↓ldL_0, ↓ldL_s, ↓ldR_0, ↓ldR_s, ↓stL_0, ↓stL_s, ↓tk_0, ↓tk_s, ↓Kc_s, ↓Kc_n, isS_0, isS_s, asP_c, gi_0, gi_s, noL_0, noL_s, isW_n, isW_i, isW_r, rcv_c, rcvT_c, swK_0, swK_s, catS, or_false, false_or, not_false_eq_true, not_true_eq_false, true_implies, false_implies, and_true, true_and, ↓reduceIte, Nat.reduceAdd, Nat.reduceLT, Nat.reduceLeDiff, Nat.reduceEqDiff, Nat.reduceSub, forall_const, eq_self, and_self, or_true, true_or, ↓opCallQ, ↓opLp, rcvQ_c, hd0, hc3, hc3.2, okO_gpP, okO_nwE, gC_gpP, gC_nwE, gN_gpP, gN_nw, hD3.2.1, show (5 : Int32).toNatClampNeg = 5 by decide, show ¬ (5 : Int32) < 0 by decide, show (9 : Int32).toNatClampNeg = 9 by decide, show ¬ (9 : Int32) < 0 by decide, show nfl 0 = 3 from rfl, show nfl 1 = 4 from rfl, show nfl 2 = 7 from rfl, show nfl 3 = 3 from rfl, show nfl 4 = 6 from rfl, show nfl 6 = 7 from rfl, show nfl 7 = 2 from rfl, show nfl 8 = 6 from rfl, show nfl 9 = 4 from rfl]
  have f4 := s3.fresh 1
  refine ⟨_, (3, 245), _, (284, 4575), rfl, by decide, by decide, r_i1 (d := d + 1) f4.1 f4.2.1 f4.2.2, fun r G4 I4 h => ?_⟩
  obtain ⟨rfl, hD4⟩ := h
  have hc4 := s3.okD hD4
  have s4 := s3.sub (k := 3) hD4 (by decide)
  simp only [↓tQX10_init, ↓opPush, ↓opILoad, ↓opLLoad, ↓opALoad, ↓opIStore, ↓opAStore, ↓opLStore, ↓opIInc, ↓opI1, ↓opII, ↓opID, ↓opLL, ↓opLD, ↓opLI, ↓opI2L, ↓opL2I, ↓opLcmp, ↓opDup, ↓opDupX1, ↓opDup2, ↓opPop, ↓opIf1, ↓opIf2, ↓opGoto, ↓opIRet, ↓opZRet, ↓opLRet, ↓opVRet, ↓opGetI, ↓opGetL, ↓opGetR, ↓opPutI, ↓opPutZ, ↓opPutL, ↓opPutR, ↓opIALoad, ↓opBALoad, ↓opZALoad, ↓opLALoad, ↓opAALoad, ↓opIAStore, ↓opZAStore, ↓opLAStore, ↓opALen, ↓opGetS, ↓opGetC, ↓opStrV, ↓opStrC, ↓opCallV, ↓opCallS, ↓opSw, ↓opCopy, ↓opCallT, ↓opBRet, ↓opObjI, ↓opNew, ↓opNewA, ↓opANew, ↓opAAStore, ↓opMNew, ↓opCallI, ↓wp_s, ↓wp_0, ↓popI_c, ↓popL_c, ↓popR_c, ↓pop1_i, ↓pop1_r, ↓ldI_0, ↓ldI_s, ↓ldL_0, ↓ldL_s, ↓ldR_0, ↓ldR_s, ↓stL_0, ↓stL_s, ↓tk_0, ↓tk_s, ↓Kc_s, ↓Kc_n, isS_0, isS_s, asP_c, gi_0, gi_s, noL_0, noL_s, isW_n, isW_i, isW_r, rcv_c, rcvT_c, swK_0, swK_s, catS, or_false, false_or, not_false_eq_true, not_true_eq_false, true_implies, false_implies, and_true, true_and, ↓reduceIte, Nat.reduceAdd, Nat.reduceLT, Nat.reduceLeDiff, Nat.reduceEqDiff, Nat.reduceSub, forall_const, eq_self, and_self, or_true, true_or, ↓opCallQ, ↓opLp, rcvQ_c, hd0, hc4, hc4.2, okO_gpP, okO_nwE, gC_gpP, gC_nwE, gN_gpP, gN_nw, hD4.2.1, show (5 : Int32).toNatClampNeg = 5 by decide, show ¬ (5 : Int32) < 0 by decide, show (9 : Int32).toNatClampNeg = 9 by decide, show ¬ (9 : Int32) < 0 by decide, show nfl 0 = 3 from rfl, show nfl 1 = 4 from rfl, show nfl 2 = 7 from rfl, show nfl 3 = 3 from rfl, show nfl 4 = 6 from rfl, show nfl 6 = 7 from rfl, show nfl 7 = 2 from rfl, show nfl 8 = 6 from rfl, show nfl 9 = 4 from rfl]
  have f5 := s4.fresh 2
  refine ⟨_, (8, 1010), _, (275, 3558), rfl, by decide, by decide, r_i2 (d := d + 1) f5.1 f5.2.1 f5.2.2 (s4.txt 2 ht (by decide)), fun r G5 I5 h => ?_⟩
  obtain ⟨rfl, hD5⟩ := h
  have hc5 := s4.okD hD5
  have s5 := s4.sub (k := 4) hD5 (by decide)
  simp only [↓tQX10_init, ↓opPush, ↓opILoad, ↓opLLoad, ↓opALoad, ↓opIStore, ↓opAStore, ↓opLStore, ↓opIInc, ↓opI1, ↓opII, ↓opID, ↓opLL, ↓opLD, ↓opLI, ↓opI2L, ↓opL2I, ↓opLcmp, ↓opDup, ↓opDupX1, ↓opDup2, ↓opPop, ↓opIf1, ↓opIf2, ↓opGoto, ↓opIRet, ↓opZRet, ↓opLRet, ↓opVRet, ↓opGetI, ↓opGetL, ↓opGetR, ↓opPutI, ↓opPutZ, ↓opPutL, ↓opPutR, ↓opIALoad, ↓opBALoad, ↓opZALoad, ↓opLALoad, ↓opAALoad, ↓opIAStore, ↓opZAStore, ↓opLAStore, ↓opALen, ↓opGetS, ↓opGetC, ↓opStrV, ↓opStrC, ↓opCallV, ↓opCallS, ↓opSw, ↓opCopy, ↓opCallT, ↓opBRet, ↓opObjI, ↓opNew, ↓opNewA, ↓opANew, ↓opAAStore, ↓opMNew, ↓opCallI, ↓wp_s, ↓wp_0, ↓popI_c, ↓popL_c, ↓popR_c, ↓pop1_i, ↓pop1_r, ↓ldI_0, ↓ldI_s, ↓ldL_0, ↓ldL_s, ↓ldR_0, ↓ldR_s, ↓stL_0, ↓stL_s, ↓tk_0, ↓tk_s, ↓Kc_s, ↓Kc_n, isS_0, isS_s, asP_c, gi_0, gi_s, noL_0, noL_s, isW_n, isW_i, isW_r, rcv_c, rcvT_c, swK_0, swK_s, catS, or_false, false_or, not_false_eq_true, not_true_eq_false, true_implies, false_implies, and_true, true_and, ↓reduceIte, Nat.reduceAdd, Nat.reduceLT, Nat.reduceLeDiff, Nat.reduceEqDiff, Nat.reduceSub, forall_const, eq_self, and_self, or_true, true_or, ↓opCallQ, ↓opLp, rcvQ_c, hd0, hc5, hc5.2, okO_gpP, okO_nwE, gC_gpP, gC_nwE, gN_gpP, gN_nw, hD5.2.1, show (5 : Int32).toNatClampNeg = 5 by decide, show ¬ (5 : Int32) < 0 by decide, show (9 : Int32).toNatClampNeg = 9 by decide, show ¬ (9 : Int32) < 0 by decide, show nfl 0 = 3 from rfl, show nfl 1 = 4 from rfl, show nfl 2 = 7 from rfl, show nfl 3 = 3 from rfl, show nfl 4 = 6 from rfl, show nfl 6 = 7 from rfl, show nfl 7 = 2 from rfl, show nfl 8 = 6 from rfl, show nfl 9 = 4 from rfl]
  have f6 := s5.fresh 6
  refine ⟨_, (4, 48), _, (270, 3503), rfl, by decide, by decide, r_i6 (a := 36) (d := d + 2) (by decide) (by decide) f6.1 f6.2.1 f6.2.2, fun r G6 I6 h => ?_⟩
  obtain ⟨rfl, hD6⟩ := h
  have hc6 := s5.okD hD6
  have s6 := s5.sub (k := 5) hD6 (by decide)
  simp only [↓tQX10_init, ↓opPush, ↓opILoad, ↓opLLoad, ↓opALoad, ↓opIStore, ↓opAStore, ↓opLStore, ↓opIInc, ↓opI1, ↓opII, ↓opID, ↓opLL, ↓opLD, ↓opLI, ↓opI2L, ↓opL2I, ↓opLcmp, ↓opDup, ↓opDupX1, ↓opDup2, ↓opPop, ↓opIf1, ↓opIf2, ↓opGoto, ↓opIRet, ↓opZRet, ↓opLRet, ↓opVRet, ↓opGetI, ↓opGetL, ↓opGetR, ↓opPutI, ↓opPutZ, ↓opPutL, ↓opPutR, ↓opIALoad, ↓opBALoad, ↓opZALoad, ↓opLALoad, ↓opAALoad, ↓opIAStore, ↓opZAStore, ↓opLAStore, ↓opALen, ↓opGetS, ↓opGetC, ↓opStrV, ↓opStrC, ↓opCallV, ↓opCallS, ↓opSw, ↓opCopy, ↓opCallT, ↓opBRet, ↓opObjI, ↓opNew, ↓opNewA, ↓opANew, ↓opAAStore, ↓opMNew, ↓opCallI, ↓wp_s, ↓wp_0, ↓popI_c, ↓popL_c, ↓popR_c, ↓pop1_i, ↓pop1_r, ↓ldI_0, ↓ldI_s, ↓ldL_0, ↓ldL_s, ↓ldR_0, ↓ldR_s, ↓stL_0, ↓stL_s, ↓tk_0, ↓tk_s, ↓Kc_s, ↓Kc_n, isS_0, isS_s, asP_c, gi_0, gi_s, noL_0, noL_s, isW_n, isW_i, isW_r, rcv_c, rcvT_c, swK_0, swK_s, catS, or_false, false_or, not_false_eq_true, not_true_eq_false, true_implies, false_implies, and_true, true_and, ↓reduceIte, Nat.reduceAdd, Nat.reduceLT, Nat.reduceLeDiff, Nat.reduceEqDiff, Nat.reduceSub, forall_const, eq_self, and_self, or_true, true_or, ↓opCallQ, ↓opLp, rcvQ_c, hd0, hc6, hc6.2, okO_gpP, okO_nwE, gC_gpP, gC_nwE, gN_gpP, gN_nw, hD6.2.1, show (5 : Int32).toNatClampNeg = 5 by decide, show ¬ (5 : Int32) < 0 by decide, show (9 : Int32).toNatClampNeg = 9 by decide, show ¬ (9 : Int32) < 0 by decide, show nfl 0 = 3 from rfl, show nfl 1 = 4 from rfl, show nfl 2 = 7 from rfl, show nfl 3 = 3 from rfl, show nfl 4 = 6 from rfl, show nfl 6 = 7 from rfl, show nfl 7 = 2 from rfl, show nfl 8 = 6 from rfl, show nfl 9 = 4 from rfl]
  have f7 := s6.fresh 3
  refine ⟨_, (3, 300), _, (266, 3200), rfl, by decide, by decide, r_i3_41 (d := d + 2) f7.1 f7.2.1 f7.2.2, fun r G7 I7 h => ?_⟩
  obtain ⟨rfl, hD7⟩ := h
  have hc7 := s6.okD hD7
  have s7 := s6.sub (k := 6) hD7 (by decide)
  simp only [↓tQX10_init, ↓opPush, ↓opILoad, ↓opLLoad, ↓opALoad, ↓opIStore, ↓opAStore, ↓opLStore, ↓opIInc, ↓opI1, ↓opII, ↓opID, ↓opLL, ↓opLD, ↓opLI, ↓opI2L, ↓opL2I, ↓opLcmp, ↓opDup, ↓opDupX1, ↓opDup2, ↓opPop, ↓opIf1, ↓opIf2, ↓opGoto, ↓opIRet, ↓opZRet, ↓opLRet, ↓opVRet, ↓opGetI, ↓opGetL, ↓opGetR, ↓opPutI, ↓opPutZ, ↓opPutL, ↓opPutR, ↓opIALoad, ↓opBALoad, ↓opZALoad, ↓opLALoad, ↓opAALoad, ↓opIAStore, ↓opZAStore, ↓opLAStore, ↓opALen, ↓opGetS, ↓opGetC, ↓opStrV, ↓opStrC, ↓opCallV, ↓opCallS, ↓opSw, ↓opCopy, ↓opCallT, ↓opBRet, ↓opObjI, ↓opNew, ↓opNewA, ↓opANew, ↓opAAStore, ↓opMNew, ↓opCallI, ↓wp_s, ↓wp_0, ↓popI_c, ↓popL_c, ↓popR_c, ↓pop1_i, ↓pop1_r, ↓ldI_0, ↓ldI_s, ↓ldL_0, ↓ldL_s, ↓ldR_0, ↓ldR_s, ↓stL_0, ↓stL_s, ↓tk_0, ↓tk_s, ↓Kc_s, ↓Kc_n, isS_0, isS_s, asP_c, gi_0, gi_s, noL_0, noL_s, isW_n, isW_i, isW_r, rcv_c, rcvT_c, swK_0, swK_s, catS, or_false, false_or, not_false_eq_true, not_true_eq_false, true_implies, false_implies, and_true, true_and, ↓reduceIte, Nat.reduceAdd, Nat.reduceLT, Nat.reduceLeDiff, Nat.reduceEqDiff, Nat.reduceSub, forall_const, eq_self, and_self, or_true, true_or, ↓opCallQ, ↓opLp, rcvQ_c, hd0, hc7, hc7.2, okO_gpP, okO_nwE, gC_gpP, gC_nwE, gN_gpP, gN_nw, hD7.2.1, show (5 : Int32).toNatClampNeg = 5 by decide, show ¬ (5 : Int32) < 0 by decide, show (9 : Int32).toNatClampNeg = 9 by decide, show ¬ (9 : Int32) < 0 by decide, show nfl 0 = 3 from rfl, show nfl 1 = 4 from rfl, show nfl 2 = 7 from rfl, show nfl 3 = 3 from rfl, show nfl 4 = 6 from rfl, show nfl 6 = 7 from rfl, show nfl 7 = 2 from rfl, show nfl 8 = 6 from rfl, show nfl 9 = 4 from rfl]
  have f8 := s7.fresh 0
  refine ⟨_, (201, 2240), _, (64, 957), rfl, by decide, by decide, r_i0 (d := d + 1) f8.1 f8.2.1 f8.2.2, fun r G8 I8 h => ?_⟩
  obtain ⟨rfl, hD8⟩ := h
  have hc8 := s7.okD hD8
  have s8 := s7.sub (k := 7) hD8 (by decide)
  simp only [↓tQX10_init, ↓opPush, ↓opILoad, ↓opLLoad, ↓opALoad, ↓opIStore, ↓opAStore, ↓opLStore, ↓opIInc, ↓opI1, ↓opII, ↓opID, ↓opLL, ↓opLD, ↓opLI, ↓opI2L, ↓opL2I, ↓opLcmp, ↓opDup, ↓opDupX1, ↓opDup2, ↓opPop, ↓opIf1, ↓opIf2, ↓opGoto, ↓opIRet, ↓opZRet, ↓opLRet, ↓opVRet, ↓opGetI, ↓opGetL, ↓opGetR, ↓opPutI, ↓opPutZ, ↓opPutL, ↓opPutR, ↓opIALoad, ↓opBALoad, ↓opZALoad, ↓opLALoad, ↓opAALoad, ↓opIAStore, ↓opZAStore, ↓opLAStore, ↓opALen, ↓opGetS, ↓opGetC, ↓opStrV, ↓opStrC, ↓opCallV, ↓opCallS, ↓opSw, ↓opCopy, ↓opCallT, ↓opBRet, ↓opObjI, ↓opNew, ↓opNewA, ↓opANew, ↓opAAStore, ↓opMNew, ↓opCallI, ↓wp_s, ↓wp_0, ↓popI_c, ↓popL_c, ↓popR_c, ↓pop1_i, ↓pop1_r, ↓ldI_0, ↓ldI_s, ↓ldL_0, ↓ldL_s, ↓ldR_0, ↓ldR_s, ↓stL_0, ↓stL_s, ↓tk_0, ↓tk_s, ↓Kc_s, ↓Kc_n, isS_0, isS_s, asP_c, gi_0, gi_s, noL_0, noL_s, isW_n, isW_i, isW_r, rcv_c, rcvT_c, swK_0, swK_s, catS, or_false, false_or, not_false_eq_true, not_true_eq_false, true_implies, false_implies, and_true, true_and, ↓reduceIte, Nat.reduceAdd, Nat.reduceLT, Nat.reduceLeDiff, Nat.reduceEqDiff, Nat.reduceSub, forall_const, eq_self, and_self, or_true, true_or, ↓opCallQ, ↓opLp, rcvQ_c, hd0, hc8, hc8.2, okO_gpP, okO_nwE, gC_gpP, gC_nwE, gN_gpP, gN_nw, hD8.2.1, show (5 : Int32).toNatClampNeg = 5 by decide, show ¬ (5 : Int32) < 0 by decide, show (9 : Int32).toNatClampNeg = 9 by decide, show ¬ (9 : Int32) < 0 by decide, show nfl 0 = 3 from rfl, show nfl 1 = 4 from rfl, show nfl 2 = 7 from rfl, show nfl 3 = 3 from rfl, show nfl 4 = 6 from rfl, show nfl 6 = 7 from rfl, show nfl 7 = 2 from rfl, show nfl 8 = 6 from rfl, show nfl 9 = 4 from rfl]
  have f9 := s8.fresh 6
  refine ⟨_, (4, 48), _, (59, 902), rfl, by decide, by decide, r_i6 (a := 247) (d := d + 2) (by decide) (by decide) f9.1 f9.2.1 f9.2.2, fun r G9 I9 h => ?_⟩
  obtain ⟨rfl, hD9⟩ := h
  have hc9 := s8.okD hD9
  have s9 := s8.sub (k := 8) hD9 (by decide)
  simp only [↓tQX10_init, ↓opPush, ↓opILoad, ↓opLLoad, ↓opALoad, ↓opIStore, ↓opAStore, ↓opLStore, ↓opIInc, ↓opI1, ↓opII, ↓opID, ↓opLL, ↓opLD, ↓opLI, ↓opI2L, ↓opL2I, ↓opLcmp, ↓opDup, ↓opDupX1, ↓opDup2, ↓opPop, ↓opIf1, ↓opIf2, ↓opGoto, ↓opIRet, ↓opZRet, ↓opLRet, ↓opVRet, ↓opGetI, ↓opGetL, ↓opGetR, ↓opPutI, ↓opPutZ, ↓opPutL, ↓opPutR, ↓opIALoad, ↓opBALoad, ↓opZALoad, ↓opLALoad, ↓opAALoad, ↓opIAStore, ↓opZAStore, ↓opLAStore, ↓opALen, ↓opGetS, ↓opGetC, ↓opStrV, ↓opStrC, ↓opCallV, ↓opCallS, ↓opSw, ↓opCopy, ↓opCallT, ↓opBRet, ↓opObjI, ↓opNew, ↓opNewA, ↓opANew, ↓opAAStore, ↓opMNew, ↓opCallI, ↓wp_s, ↓wp_0, ↓popI_c, ↓popL_c, ↓popR_c, ↓pop1_i, ↓pop1_r, ↓ldI_0, ↓ldI_s, ↓ldL_0, ↓ldL_s, ↓ldR_0, ↓ldR_s, ↓stL_0, ↓stL_s, ↓tk_0, ↓tk_s, ↓Kc_s, ↓Kc_n, isS_0, isS_s, asP_c, gi_0, gi_s, noL_0, noL_s, isW_n, isW_i, isW_r, rcv_c, rcvT_c, swK_0, swK_s, catS, or_false, false_or, not_false_eq_true, not_true_eq_false, true_implies, false_implies, and_true, true_and, ↓reduceIte, Nat.reduceAdd, Nat.reduceLT, Nat.reduceLeDiff, Nat.reduceEqDiff, Nat.reduceSub, forall_const, eq_self, and_self, or_true, true_or, ↓opCallQ, ↓opLp, rcvQ_c, hd0, hc9, hc9.2, okO_gpP, okO_nwE, gC_gpP, gC_nwE, gN_gpP, gN_nw, hD9.2.1, show (5 : Int32).toNatClampNeg = 5 by decide, show ¬ (5 : Int32) < 0 by decide, show (9 : Int32).toNatClampNeg = 9 by decide, show ¬ (9 : Int32) < 0 by decide, show nfl 0 = 3 from rfl, show nfl 1 = 4 from rfl, show nfl 2 = 7 from rfl, show nfl 3 = 3 from rfl, show nfl 4 = 6 from rfl, show nfl 6 = 7 from rfl, show nfl 7 = 2 from rfl, show nfl 8 = 6 from rfl, show nfl 9 = 4 from rfl]
  have f10 := s9.fresh 3
  refine ⟨_, (3, 300), _, (55, 599), rfl, by decide, by decide, r_i3_252 (d := d + 2) f10.1 f10.2.1 f10.2.2, fun r G10 I10 h => ?_⟩
  obtain ⟨rfl, hD10⟩ := h
  have hc10 := s9.okD hD10
  have s10 := s9.sub (k := 9) hD10 (by decide)
  simp only [↓tQX10_init, ↓opPush, ↓opILoad, ↓opLLoad, ↓opALoad, ↓opIStore, ↓opAStore, ↓opLStore, ↓opIInc, ↓opI1, ↓opII, ↓opID, ↓opLL, ↓opLD, ↓opLI, ↓opI2L, ↓opL2I, ↓opLcmp, ↓opDup, ↓opDupX1, ↓opDup2, ↓opPop, ↓opIf1, ↓opIf2, ↓opGoto, ↓opIRet, ↓opZRet, ↓opLRet, ↓opVRet, ↓opGetI, ↓opGetL, ↓opGetR, ↓opPutI, ↓opPutZ, ↓opPutL, ↓opPutR, ↓opIALoad, ↓opBALoad, ↓opZALoad, ↓opLALoad, ↓opAALoad, ↓opIAStore, ↓opZAStore, ↓opLAStore, ↓opALen, ↓opGetS, ↓opGetC, ↓opStrV, ↓opStrC, ↓opCallV, ↓opCallS, ↓opSw, ↓opCopy, ↓opCallT, ↓opBRet, ↓opObjI, ↓opNew, ↓opNewA, ↓opANew, ↓opAAStore, ↓opMNew, ↓opCallI, ↓wp_s, ↓wp_0, ↓popI_c, ↓popL_c, ↓popR_c, ↓pop1_i, ↓pop1_r, ↓ldI_0, ↓ldI_s, ↓ldL_0, ↓ldL_s, ↓ldR_0, ↓ldR_s, ↓stL_0, ↓stL_s, ↓tk_0, ↓tk_s, ↓Kc_s, ↓Kc_n, isS_0, isS_s, asP_c, gi_0, gi_s, noL_0, noL_s, isW_n, isW_i, isW_r, rcv_c, rcvT_c, swK_0, swK_s, catS, or_false, false_or, not_false_eq_true, not_true_eq_false, true_implies, false_implies, and_true, true_and, ↓reduceIte, Nat.reduceAdd, Nat.reduceLT, Nat.reduceLeDiff, Nat.reduceEqDiff, Nat.reduceSub, forall_const, eq_self, and_self, or_true, true_or, ↓opCallQ, ↓opLp, rcvQ_c, hd0, hc10, hc10.2, okO_gpP, okO_nwE, gC_gpP, gC_nwE, gN_gpP, gN_nw, hD10.2.1, show (5 : Int32).toNatClampNeg = 5 by decide, show ¬ (5 : Int32) < 0 by decide, show (9 : Int32).toNatClampNeg = 9 by decide, show ¬ (9 : Int32) < 0 by decide, show nfl 0 = 3 from rfl, show nfl 1 = 4 from rfl, show nfl 2 = 7 from rfl, show nfl 3 = 3 from rfl, show nfl 4 = 6 from rfl, show nfl 6 = 7 from rfl, show nfl 7 = 2 from rfl, show nfl 8 = 6 from rfl, show nfl 9 = 4 from rfl]
  have f11 := s10.fresh 4
  refine ⟨_, (5, 66), _, (49, 527), rfl, by decide, by decide, r_i4 (d := d + 2) f11.1 f11.2.1 f11.2.2, fun r G11 I11 h => ?_⟩
  obtain ⟨rfl, hD11⟩ := h
  have hc11 := s10.okD hD11
  have s11 := s10.sub (k := 10) hD11 (by decide)
  simp only [↓tQX10_init, ↓opPush, ↓opILoad, ↓opLLoad, ↓opALoad, ↓opIStore, ↓opAStore, ↓opLStore, ↓opIInc, ↓opI1, ↓opII, ↓opID, ↓opLL, ↓opLD, ↓opLI, ↓opI2L, ↓opL2I, ↓opLcmp, ↓opDup, ↓opDupX1, ↓opDup2, ↓opPop, ↓opIf1, ↓opIf2, ↓opGoto, ↓opIRet, ↓opZRet, ↓opLRet, ↓opVRet, ↓opGetI, ↓opGetL, ↓opGetR, ↓opPutI, ↓opPutZ, ↓opPutL, ↓opPutR, ↓opIALoad, ↓opBALoad, ↓opZALoad, ↓opLALoad, ↓opAALoad, ↓opIAStore, ↓opZAStore, ↓opLAStore, ↓opALen, ↓opGetS, ↓opGetC, ↓opStrV, ↓opStrC, ↓opCallV, ↓opCallS, ↓opSw, ↓opCopy, ↓opCallT, ↓opBRet, ↓opObjI, ↓opNew, ↓opNewA, ↓opANew, ↓opAAStore, ↓opMNew, ↓opCallI, ↓wp_s, ↓wp_0, ↓popI_c, ↓popL_c, ↓popR_c, ↓pop1_i, ↓pop1_r, ↓ldI_0, ↓ldI_s, ↓ldL_0, ↓ldL_s, ↓ldR_0, ↓ldR_s, ↓stL_0, ↓stL_s, ↓tk_0, ↓tk_s, ↓Kc_s, ↓Kc_n, isS_0, isS_s, asP_c, gi_0, gi_s, noL_0, noL_s, isW_n, isW_i, isW_r, rcv_c, rcvT_c, swK_0, swK_s, catS, or_false, false_or, not_false_eq_true, not_true_eq_false, true_implies, false_implies, and_true, true_and, ↓reduceIte, Nat.reduceAdd, Nat.reduceLT, Nat.reduceLeDiff, Nat.reduceEqDiff, Nat.reduceSub, forall_const, eq_self, and_self, or_true, true_or, ↓opCallQ, ↓opLp, rcvQ_c, hd0, hc11, hc11.2, okO_gpP, okO_nwE, gC_gpP, gC_nwE, gN_gpP, gN_nw, hD11.2.1, show (5 : Int32).toNatClampNeg = 5 by decide, show ¬ (5 : Int32) < 0 by decide, show (9 : Int32).toNatClampNeg = 9 by decide, show ¬ (9 : Int32) < 0 by decide, show nfl 0 = 3 from rfl, show nfl 1 = 4 from rfl, show nfl 2 = 7 from rfl, show nfl 3 = 3 from rfl, show nfl 4 = 6 from rfl, show nfl 6 = 7 from rfl, show nfl 7 = 2 from rfl, show nfl 8 = 6 from rfl, show nfl 9 = 4 from rfl]
  have s12 := s11.arr (k := 11) (t := 100) (len := 5) (by decide) rfl rfl (Or.inr rfl) (by decide) (by decide)
  have s13 := s12.arr (k := 12) (t := 104) (len := 9) (by decide) rfl rfl (Or.inl rfl) (by decide) (by decide)
  have s14 := s13.arr (k := 13) (t := 100) (len := 9) (by decide) rfl rfl (Or.inr rfl) (by decide) (by decide)
  have s15 := s14.arr (k := 14) (t := 100) (len := 9) (by decide) rfl rfl (Or.inr rfl) (by decide) (by decide)
  have s16 := s15.int (k := 15) (v := 0)
  have s17 := s16.int (k := 16) (v := 2)
  exact key 9 0 rfl _ _ _ (by decide) (by decide) s17 (fun i hi => absurd hi (by omega))
end
