/-! ===== the constructors that call no other ===== -/
section
variable {E : EV} {d : Nat} {G : GD} {I : IM} {a b c t k n : Nat} {v : Option Nat}
def KQ (E : EV) (d : Nat) (M : MI) (a n : Nat) (bc : Nat × Nat) (G : GD) (I : IM) : Prop := Ct E d M [.ref a] bc G I (fun r G' I' => r = none ∧ Done a n G I G' I')
theorem gN_gpP : gN (gpP G a k v) = gN G := rfl
theorem gN_nw : gN (gNw G c n) = gN G + 1 := rfl
theorem okO_gpP : okO (gpP G a k v) b c = okO G b c := rfl
theorem okO_nw (h : okO G a c) : okO (gNw G t n) a c := ⟨Nat.lt_succ_of_lt h.1, (gC_nw (Nat.ne_of_lt h.1)).trans h.2⟩
theorem gC_gpP : gC (gpP G a k v) b = gC G b := rfl
theorem gC_nwE : gC (gNw G t n) a = if a = gN G then t else gC G a := by
  by_cases h : a = gN G
  · rw [if_pos h, h]
    exact (gNw_at t n).1
  · rw [if_neg h]
    exact gC_nw h
theorem okO_nwE : okO (gNw G t n) a c = (a < gN G + 1 ∧ (if a = gN G then t else gC G a) = c) := by
  unfold okO
  rw [gC_nwE]
  rfl
theorem okO_at : okO (gNw G t n) (gN G) t := ⟨Nat.lt_succ_self _, (gNw_at t n).1⟩
abbrev a12 (n : Nat) : Prop := kC n = 100 ∧ kL n = 12 ∧ tblP.getD n [] = [] ∧ zI n
abbrev st6 (a : Nat) : Prop := kC a = 6 ∧ tblP.getD a [] = [(0, a + 1), (1, a + 2), (2, a + 3), (3, a + 4)] ∧ zI a ∧ a12 (a + 1) ∧ a12 (a + 1 + 1) ∧ a12 (a + 1 + 1 + 1) ∧ a12 (a + 1 + 1 + 1 + 1)
set_option maxRecDepth 100000 in
set_option maxHeartbeats 4000000 in
theorem r_i6 (hs : st6 a) (ha : a + 5 ≤ 1000) (hn : gN G = a + 1) (hc : okO G a 6) (h0 : I a = fun _ => 0) : KQ E (d + 1) mX6_init a (a + 5) (4, 48) G I := by
  have hd0 : 0 < d + 1 := Nat.succ_pos d
  obtain ⟨g0, g1, g2, g3, g4, g5, g6⟩ := hs
  have b0 : a + 1 < 100000 := by omega
  have b1 : a + 1 + 1 < 100000 := by omega
  have b2 : a + 1 + 1 + 1 < 100000 := by omega
  have b3 : a + 1 + 1 + 1 + 1 < 100000 := by omega
  have key : Done a (a + 5) G I (gpP (gNw (gpP (gNw (gpP (gNw (gpP (gNw G 100 12) a 0 (some (a + 1))) 100 12) a 1 (some (a + 1 + 1))) 100 12) a 2 (some (a + 1 + 1 + 1))) 100 12) a 3 (some (a + 1 + 1 + 1 + 1))) (up2 (up2 (up2 (upr (upr (upr (upr I (a + 1) (fun _ => 0)) (a + 1 + 1) (fun _ => 0)) (a + 1 + 1 + 1) (fun _ => 0)) (a + 1 + 1 + 1 + 1) (fun _ => 0)) a 4 0) a 5 0) a 6 0) := by
    have s0 := SB.base (r := 0) hn (by omega) hc.2 h0
    have s1 := s0.arr (k := 0) b0 g3.1 g3.2.1 (Or.inr g3.2.2.1) g3.2.2.2 (fun x hx => nomatch hx)
    have s2 := s1.arr (k := 1) b1 g4.1 g4.2.1 (Or.inr g4.2.2.1) g4.2.2.2 (by simp)
    have s3 := s2.arr (k := 2) b2 g5.1 g5.2.1 (Or.inr g5.2.2.1) g5.2.2.2 (by simp)
    have s4 := s3.arr (k := 3) b3 g6.1 g6.2.1 (Or.inr g6.2.2.1) g6.2.2.2 (by simp)
    refine (((s4.int (k := 4) (v := 0)).int (k := 5) (v := 0)).int (k := 6) (v := 0)).fin g0 (by decide) ?_ ?_ (Or.inl rfl)
    · rw [g1]
      intro x hx
      simp only [List.mem_cons, List.not_mem_nil, or_false] at hx ⊢
      rcases hx with rfl | rfl | rfl | rfl
      · exact Or.inr (Or.inr (Or.inr rfl))
      · exact Or.inr (Or.inr (Or.inl rfl))
      · exact Or.inr (Or.inl rfl)
      · exact Or.inl rfl
    · rw [kI_z g2]
      funext j
      simp
  have q1 : okO (gNw G 100 12) a 6 := okO_nw hc
  have q2 : okO (gNw (gpP (gNw G 100 12) a 0 (some (a + 1))) 100 12) a 6 := okO_nw q1
  have q3 : okO (gNw (gpP (gNw (gpP (gNw G 100 12) a 0 (some (a + 1))) 100 12) a 1 (some (a + 1 + 1))) 100 12) a 6 := okO_nw q2
  have q4 : okO (gNw (gpP (gNw (gpP (gNw (gpP (gNw G 100 12) a 0 (some (a + 1))) 100 12) a 1 (some (a + 1 + 1))) 100 12) a 2 (some (a + 1 + 1 + 1))) 100 12) a 6 := okO_nw q3
  refine Ct.run okX6_init TX6_init [] 300 rfl rfl ?_
  simp only [↓tX6_init, ↓opPush, ↓opILoad, ↓opLLoad, ↓opALoad, ↓opIStore, ↓opAStore, ↓opLStore, ↓opIInc, ↓opI1, ↓opII, ↓opID, ↓opLL, ↓opLD, ↓opLI, ↓opI2L, ↓opL2I, ↓opLcmp, ↓opDup, ↓opDupX1, ↓opDup2, ↓opPop, ↓opIf1, ↓opIf2, ↓opGoto, ↓opIRet, ↓opZRet, ↓opLRet, ↓opVRet, ↓opGetI, ↓opGetL, ↓opGetR, ↓opPutI, ↓opPutZ, ↓opPutL, ↓opPutR, ↓opIALoad, ↓opBALoad, ↓opZALoad, ↓opLALoad, ↓opAALoad, ↓opIAStore, ↓opZAStore, ↓opLAStore, ↓opALen, ↓opGetS, ↓opGetC, ↓opStrV, ↓opStrC, ↓opCallV, ↓opCallS, ↓opSw, ↓opCopy, ↓opCallT, ↓opBRet, ↓opObjI, ↓opNew, ↓opNewA, ↓opANew, ↓opAAStore, ↓opMNew, ↓opCallI, ↓wp_s, ↓wp_0, ↓popI_c, ↓popL_c, ↓popR_c, ↓pop1_i, ↓pop1_r, ↓ldI_0, ↓ldI_s, ↓ldL_0, ↓ldL_s, ↓ldR_0, ↓ldR_s, ↓stL_0, ↓stL_s, ↓tk_0, ↓tk_s, ↓Kc_s, ↓Kc_n, isS_0, isS_s, asP_c, gi_0, gi_s, noL_0, noL_s, isW_n, isW_i, isW_r, rcv_c, rcvT_c, swK_0, swK_s, catS, or_false, false_or, not_false_eq_true, not_true_eq_false, true_implies, false_implies, and_true, true_and, ↓reduceIte, Nat.reduceAdd, Nat.reduceLT, Nat.reduceLeDiff, Nat.reduceEqDiff, Nat.reduceSub, forall_const, eq_self, and_self, or_true, true_or, lve_i, lve_r, lve_l, lve_0, List.replicate_succ, List.replicate_zero, mX, mX6_init, hd0, hc, okO_gpP, q1, q2, q3, q4, gN_gpP, gN_nw, hn, b0, b1, b2, b3, show (12 : Int32).toNatClampNeg = 12 by decide, show ¬ (12 : Int32) < 0 by decide]
  exact key
set_option maxRecDepth 100000 in
set_option maxHeartbeats 4000000 in
theorem r_i7 (hn : gN G = 2) (hc : okO G 1 7) (h0 : I 1 = fun _ => 0) : KQ E (d + 1) mX7_init 1 3 (1, 240) G I := by
  have hd0 : 0 < d + 1 := Nat.succ_pos d
  refine Ct.run okX7_init TX7_init [] 300 rfl rfl ?_
  simp only [↓tX7_init, ↓opPush, ↓opILoad, ↓opLLoad, ↓opALoad, ↓opIStore, ↓opAStore, ↓opLStore, ↓opIInc, ↓opI1, ↓opII, ↓opID, ↓opLL, ↓opLD, ↓opLI, ↓opI2L, ↓opL2I, ↓opLcmp, ↓opDup, ↓opDupX1, ↓opDup2, ↓opPop, ↓opIf1, ↓opIf2, ↓opGoto, ↓opIRet, ↓opZRet, ↓opLRet, ↓opVRet, ↓opGetI, ↓opGetL, ↓opGetR, ↓opPutI, ↓opPutZ, ↓opPutL, ↓opPutR, ↓opIALoad, ↓opBALoad, ↓opZALoad, ↓opLALoad, ↓opAALoad, ↓opIAStore, ↓opZAStore, ↓opLAStore, ↓opALen, ↓opGetS, ↓opGetC, ↓opStrV, ↓opStrC, ↓opCallV, ↓opCallS, ↓opSw, ↓opCopy, ↓opCallT, ↓opBRet, ↓opObjI, ↓opNew, ↓opNewA, ↓opANew, ↓opAAStore, ↓opMNew, ↓opCallI, ↓wp_s, ↓wp_0, ↓popI_c, ↓popL_c, ↓popR_c, ↓pop1_i, ↓pop1_r, ↓ldI_0, ↓ldI_s, ↓ldL_0, ↓ldL_s, ↓ldR_0, ↓ldR_s, ↓stL_0, ↓stL_s, ↓tk_0, ↓tk_s, ↓Kc_s, ↓Kc_n, isS_0, isS_s, asP_c, gi_0, gi_s, noL_0, noL_s, isW_n, isW_i, isW_r, rcv_c, rcvT_c, swK_0, swK_s, catS, or_false, false_or, not_false_eq_true, not_true_eq_false, true_implies, false_implies, and_true, true_and, ↓reduceIte, Nat.reduceAdd, Nat.reduceLT, Nat.reduceLeDiff, Nat.reduceEqDiff, Nat.reduceSub, forall_const, eq_self, and_self, or_true, true_or, lve_i, lve_r, lve_l, lve_0, List.replicate_succ, List.replicate_zero, mX, mX7_init, hd0, hc, hc.2, okO_gpP, okO_nwE, gC_gpP, gC_nwE, gN_gpP, gN_nw, hn, show (240 : Int32).toNatClampNeg = 240 by decide, show ¬ (240 : Int32) < 0 by decide]
  exact (((SB.base (r := 0) hn (by decide) hc.2 h0).arr (k := 0) (t := 100) (len := 240) (by decide) rfl rfl (Or.inr rfl) (by decide) (by decide)).int (k := 1) (v := 0)).fin rfl (by decide) (by decide) ((kI_z (by decide)).trans (by funext j; simp)) (Or.inl rfl)
set_option maxRecDepth 100000 in
set_option maxHeartbeats 4000000 in
theorem r_i5_12 (hn : gN G = 13) (hc : okO G 12 5) (h0 : I 12 = fun _ => 0) : KQ E (d + 1) mX5_init 12 14 (1, 0) G I := by
  have hd0 : 0 < d + 1 := Nat.succ_pos d
  refine Ct.run okX5_init TX5_init [] 300 rfl rfl ?_
  simp only [↓tX5_init, ↓opPush, ↓opILoad, ↓opLLoad, ↓opALoad, ↓opIStore, ↓opAStore, ↓opLStore, ↓opIInc, ↓opI1, ↓opII, ↓opID, ↓opLL, ↓opLD, ↓opLI, ↓opI2L, ↓opL2I, ↓opLcmp, ↓opDup, ↓opDupX1, ↓opDup2, ↓opPop, ↓opIf1, ↓opIf2, ↓opGoto, ↓opIRet, ↓opZRet, ↓opLRet, ↓opVRet, ↓opGetI, ↓opGetL, ↓opGetR, ↓opPutI, ↓opPutZ, ↓opPutL, ↓opPutR, ↓opIALoad, ↓opBALoad, ↓opZALoad, ↓opLALoad, ↓opAALoad, ↓opIAStore, ↓opZAStore, ↓opLAStore, ↓opALen, ↓opGetS, ↓opGetC, ↓opStrV, ↓opStrC, ↓opCallV, ↓opCallS, ↓opSw, ↓opCopy, ↓opCallT, ↓opBRet, ↓opObjI, ↓opNew, ↓opNewA, ↓opANew, ↓opAAStore, ↓opMNew, ↓opCallI, ↓wp_s, ↓wp_0, ↓popI_c, ↓popL_c, ↓popR_c, ↓pop1_i, ↓pop1_r, ↓ldI_0, ↓ldI_s, ↓ldL_0, ↓ldL_s, ↓ldR_0, ↓ldR_s, ↓stL_0, ↓stL_s, ↓tk_0, ↓tk_s, ↓Kc_s, ↓Kc_n, isS_0, isS_s, asP_c, gi_0, gi_s, noL_0, noL_s, isW_n, isW_i, isW_r, rcv_c, rcvT_c, swK_0, swK_s, catS, or_false, false_or, not_false_eq_true, not_true_eq_false, true_implies, false_implies, and_true, true_and, ↓reduceIte, Nat.reduceAdd, Nat.reduceLT, Nat.reduceLeDiff, Nat.reduceEqDiff, Nat.reduceSub, forall_const, eq_self, and_self, or_true, true_or, lve_i, lve_r, lve_l, lve_0, List.replicate_succ, List.replicate_zero, mX, mX5_init, hd0, hc, hc.2, okO_gpP, okO_nwE, gC_gpP, gC_nwE, gN_gpP, gN_nw, hn, show (0 : Int32).toNatClampNeg = 0 by decide, show ¬ (0 : Int32) < 0 by decide]
  exact (((((SB.base (r := 0) hn (by decide) hc.2 h0).arr (k := 0) (t := 100) (len := 0) (by decide) rfl rfl (Or.inr rfl) (by decide) (by decide)).int (k := 1) (v := 0)).int (k := 2) (v := 0)).int (k := 3) (v := (-1))).fin rfl (by decide) (by decide) (by
    funext j
    unfold kI
    by_cases e3 : j = 3
    · subst e3; rfl
    simp [e3]) (Or.inl rfl)
set_option maxRecDepth 100000 in
set_option maxHeartbeats 4000000 in
theorem r_i5_25 (hn : gN G = 26) (hc : okO G 25 5) (h0 : I 25 = fun _ => 0) : KQ E (d + 1) mX5_init 25 27 (1, 0) G I := by
  have hd0 : 0 < d + 1 := Nat.succ_pos d
  refine Ct.run okX5_init TX5_init [] 300 rfl rfl ?_
  simp only [↓tX5_init, ↓opPush, ↓opILoad, ↓opLLoad, ↓opALoad, ↓opIStore, ↓opAStore, ↓opLStore, ↓opIInc, ↓opI1, ↓opII, ↓opID, ↓opLL, ↓opLD, ↓opLI, ↓opI2L, ↓opL2I, ↓opLcmp, ↓opDup, ↓opDupX1, ↓opDup2, ↓opPop, ↓opIf1, ↓opIf2, ↓opGoto, ↓opIRet, ↓opZRet, ↓opLRet, ↓opVRet, ↓opGetI, ↓opGetL, ↓opGetR, ↓opPutI, ↓opPutZ, ↓opPutL, ↓opPutR, ↓opIALoad, ↓opBALoad, ↓opZALoad, ↓opLALoad, ↓opAALoad, ↓opIAStore, ↓opZAStore, ↓opLAStore, ↓opALen, ↓opGetS, ↓opGetC, ↓opStrV, ↓opStrC, ↓opCallV, ↓opCallS, ↓opSw, ↓opCopy, ↓opCallT, ↓opBRet, ↓opObjI, ↓opNew, ↓opNewA, ↓opANew, ↓opAAStore, ↓opMNew, ↓opCallI, ↓wp_s, ↓wp_0, ↓popI_c, ↓popL_c, ↓popR_c, ↓pop1_i, ↓pop1_r, ↓ldI_0, ↓ldI_s, ↓ldL_0, ↓ldL_s, ↓ldR_0, ↓ldR_s, ↓stL_0, ↓stL_s, ↓tk_0, ↓tk_s, ↓Kc_s, ↓Kc_n, isS_0, isS_s, asP_c, gi_0, gi_s, noL_0, noL_s, isW_n, isW_i, isW_r, rcv_c, rcvT_c, swK_0, swK_s, catS, or_false, false_or, not_false_eq_true, not_true_eq_false, true_implies, false_implies, and_true, true_and, ↓reduceIte, Nat.reduceAdd, Nat.reduceLT, Nat.reduceLeDiff, Nat.reduceEqDiff, Nat.reduceSub, forall_const, eq_self, and_self, or_true, true_or, lve_i, lve_r, lve_l, lve_0, List.replicate_succ, List.replicate_zero, mX, mX5_init, hd0, hc, hc.2, okO_gpP, okO_nwE, gC_gpP, gC_nwE, gN_gpP, gN_nw, hn, show (0 : Int32).toNatClampNeg = 0 by decide, show ¬ (0 : Int32) < 0 by decide]
  exact (((((SB.base (r := 0) hn (by decide) hc.2 h0).arr (k := 0) (t := 100) (len := 0) (by decide) rfl rfl (Or.inr rfl) (by decide) (by decide)).int (k := 1) (v := 0)).int (k := 2) (v := 0)).int (k := 3) (v := (-1))).fin rfl (by decide) (by decide) (by
    funext j
    unfold kI
    by_cases e3 : j = 3
    · subst e3; rfl
    simp [e3]) (Or.inl rfl)
set_option maxRecDepth 100000 in
set_option maxHeartbeats 4000000 in
theorem r_i3_41 (hn : gN G = 42) (hc : okO G 41 3) (h0 : I 41 = fun _ => 0) : KQ E (d + 1) mX3_init 41 45 (3, 300) G I := by
  have hd0 : 0 < d + 1 := Nat.succ_pos d
  refine Ct.run okX3_init TX3_init [] 300 rfl rfl ?_
  simp only [↓tX3_init, ↓opPush, ↓opILoad, ↓opLLoad, ↓opALoad, ↓opIStore, ↓opAStore, ↓opLStore, ↓opIInc, ↓opI1, ↓opII, ↓opID, ↓opLL, ↓opLD, ↓opLI, ↓opI2L, ↓opL2I, ↓opLcmp, ↓opDup, ↓opDupX1, ↓opDup2, ↓opPop, ↓opIf1, ↓opIf2, ↓opGoto, ↓opIRet, ↓opZRet, ↓opLRet, ↓opVRet, ↓opGetI, ↓opGetL, ↓opGetR, ↓opPutI, ↓opPutZ, ↓opPutL, ↓opPutR, ↓opIALoad, ↓opBALoad, ↓opZALoad, ↓opLALoad, ↓opAALoad, ↓opIAStore, ↓opZAStore, ↓opLAStore, ↓opALen, ↓opGetS, ↓opGetC, ↓opStrV, ↓opStrC, ↓opCallV, ↓opCallS, ↓opSw, ↓opCopy, ↓opCallT, ↓opBRet, ↓opObjI, ↓opNew, ↓opNewA, ↓opANew, ↓opAAStore, ↓opMNew, ↓opCallI, ↓wp_s, ↓wp_0, ↓popI_c, ↓popL_c, ↓popR_c, ↓pop1_i, ↓pop1_r, ↓ldI_0, ↓ldI_s, ↓ldL_0, ↓ldL_s, ↓ldR_0, ↓ldR_s, ↓stL_0, ↓stL_s, ↓tk_0, ↓tk_s, ↓Kc_s, ↓Kc_n, isS_0, isS_s, asP_c, gi_0, gi_s, noL_0, noL_s, isW_n, isW_i, isW_r, rcv_c, rcvT_c, swK_0, swK_s, catS, or_false, false_or, not_false_eq_true, not_true_eq_false, true_implies, false_implies, and_true, true_and, ↓reduceIte, Nat.reduceAdd, Nat.reduceLT, Nat.reduceLeDiff, Nat.reduceEqDiff, Nat.reduceSub, forall_const, eq_self, and_self, or_true, true_or, lve_i, lve_r, lve_l, lve_0, List.replicate_succ, List.replicate_zero, mX, mX3_init, hd0, hc, hc.2, okO_gpP, okO_nwE, gC_gpP, gC_nwE, gN_gpP, gN_nw, hn, show (100 : Int32).toNatClampNeg = 100 by decide, show ¬ (100 : Int32) < 0 by decide]
  exact ((((SB.base (r := 0) hn (by decide) hc.2 h0).arr (k := 0) (t := 100) (len := 100) (by decide) rfl rfl (Or.inr rfl) (by decide) (by decide)).arr (k := 1) (t := 100) (len := 100) (by decide) rfl rfl (Or.inr rfl) (by decide) (by decide)).arr (k := 2) (t := 100) (len := 100) (by decide) rfl rfl (Or.inr rfl) (by decide) (by decide)).fin rfl (by decide) (by decide) ((kI_z (by decide)).trans (by funext j; simp)) (Or.inl rfl)
set_option maxRecDepth 100000 in
set_option maxHeartbeats 4000000 in
theorem r_i3_252 (hn : gN G = 253) (hc : okO G 252 3) (h0 : I 252 = fun _ => 0) : KQ E (d + 1) mX3_init 252 256 (3, 300) G I := by
  have hd0 : 0 < d + 1 := Nat.succ_pos d
  refine Ct.run okX3_init TX3_init [] 300 rfl rfl ?_
  simp only [↓tX3_init, ↓opPush, ↓opILoad, ↓opLLoad, ↓opALoad, ↓opIStore, ↓opAStore, ↓opLStore, ↓opIInc, ↓opI1, ↓opII, ↓opID, ↓opLL, ↓opLD, ↓opLI, ↓opI2L, ↓opL2I, ↓opLcmp, ↓opDup, ↓opDupX1, ↓opDup2, ↓opPop, ↓opIf1, ↓opIf2, ↓opGoto, ↓opIRet, ↓opZRet, ↓opLRet, ↓opVRet, ↓opGetI, ↓opGetL, ↓opGetR, ↓opPutI, ↓opPutZ, ↓opPutL, ↓opPutR, ↓opIALoad, ↓opBALoad, ↓opZALoad, ↓opLALoad, ↓opAALoad, ↓opIAStore, ↓opZAStore, ↓opLAStore, ↓opALen, ↓opGetS, ↓opGetC, ↓opStrV, ↓opStrC, ↓opCallV, ↓opCallS, ↓opSw, ↓opCopy, ↓opCallT, ↓opBRet, ↓opObjI, ↓opNew, ↓opNewA, ↓opANew, ↓opAAStore, ↓opMNew, ↓opCallI, ↓wp_s, ↓wp_0, ↓popI_c, ↓popL_c, ↓popR_c, ↓pop1_i, ↓pop1_r, ↓ldI_0, ↓ldI_s, ↓ldL_0, ↓ldL_s, ↓ldR_0, ↓ldR_s, ↓stL_0, ↓stL_s, ↓tk_0, ↓tk_s, ↓Kc_s, ↓Kc_n, isS_0, isS_s, asP_c, gi_0, gi_s, noL_0, noL_s, isW_n, isW_i, isW_r, rcv_c, rcvT_c, swK_0, swK_s, catS, or_false, false_or, not_false_eq_true, not_true_eq_false, true_implies, false_implies, and_true, true_and, ↓reduceIte, Nat.reduceAdd, Nat.reduceLT, Nat.reduceLeDiff, Nat.reduceEqDiff, Nat.reduceSub, forall_const, eq_self, and_self, or_true, true_or, lve_i, lve_r, lve_l, lve_0, List.replicate_succ, List.replicate_zero, mX, mX3_init, hd0, hc, hc.2, okO_gpP, okO_nwE, gC_gpP, gC_nwE, gN_gpP, gN_nw, hn, show (100 : Int32).toNatClampNeg = 100 by decide, show ¬ (100 : Int32) < 0 by decide]
  exact ((((SB.base (r := 0) hn (by decide) hc.2 h0).arr (k := 0) (t := 100) (len := 100) (by decide) rfl rfl (Or.inr rfl) (by decide) (by decide)).arr (k := 1) (t := 100) (len := 100) (by decide) rfl rfl (Or.inr rfl) (by decide) (by decide)).arr (k := 2) (t := 100) (len := 100) (by decide) rfl rfl (Or.inr rfl) (by decide) (by decide)).fin rfl (by decide) (by decide) ((kI_z (by decide)).trans (by funext j; simp)) (Or.inl rfl)
set_option maxRecDepth 100000 in
set_option maxHeartbeats 4000000 in
theorem r_i4 (hn : gN G = 257) (hc : okO G 256 4) (h0 : I 256 = fun _ => 0) : KQ E (d + 1) mX4_init 256 262 (5, 66) G I := by
  have hd0 : 0 < d + 1 := Nat.succ_pos d
  refine Ct.run okX4_init TX4_init [] 300 rfl rfl ?_
  simp only [↓tX4_init, ↓opPush, ↓opILoad, ↓opLLoad, ↓opALoad, ↓opIStore, ↓opAStore, ↓opLStore, ↓opIInc, ↓opI1, ↓opII, ↓opID, ↓opLL, ↓opLD, ↓opLI, ↓opI2L, ↓opL2I, ↓opLcmp, ↓opDup, ↓opDupX1, ↓opDup2, ↓opPop, ↓opIf1, ↓opIf2, ↓opGoto, ↓opIRet, ↓opZRet, ↓opLRet, ↓opVRet, ↓opGetI, ↓opGetL, ↓opGetR, ↓opPutI, ↓opPutZ, ↓opPutL, ↓opPutR, ↓opIALoad, ↓opBALoad, ↓opZALoad, ↓opLALoad, ↓opAALoad, ↓opIAStore, ↓opZAStore, ↓opLAStore, ↓opALen, ↓opGetS, ↓opGetC, ↓opStrV, ↓opStrC, ↓opCallV, ↓opCallS, ↓opSw, ↓opCopy, ↓opCallT, ↓opBRet, ↓opObjI, ↓opNew, ↓opNewA, ↓opANew, ↓opAAStore, ↓opMNew, ↓opCallI, ↓wp_s, ↓wp_0, ↓popI_c, ↓popL_c, ↓popR_c, ↓pop1_i, ↓pop1_r, ↓ldI_0, ↓ldI_s, ↓ldL_0, ↓ldL_s, ↓ldR_0, ↓ldR_s, ↓stL_0, ↓stL_s, ↓tk_0, ↓tk_s, ↓Kc_s, ↓Kc_n, isS_0, isS_s, asP_c, gi_0, gi_s, noL_0, noL_s, isW_n, isW_i, isW_r, rcv_c, rcvT_c, swK_0, swK_s, catS, or_false, false_or, not_false_eq_true, not_true_eq_false, true_implies, false_implies, and_true, true_and, ↓reduceIte, Nat.reduceAdd, Nat.reduceLT, Nat.reduceLeDiff, Nat.reduceEqDiff, Nat.reduceSub, forall_const, eq_self, and_self, or_true, true_or, lve_i, lve_r, lve_l, lve_0, List.replicate_succ, List.replicate_zero, mX, mX4_init, hd0, hc, hc.2, okO_gpP, okO_nwE, gC_gpP, gC_nwE, gN_gpP, gN_nw, hn, show (5 : Int32).toNatClampNeg = 5 by decide, show ¬ (5 : Int32) < 0 by decide, show (10 : Int32).toNatClampNeg = 10 by decide, show ¬ (10 : Int32) < 0 by decide, show (31 : Int32).toNatClampNeg = 31 by decide, show ¬ (31 : Int32) < 0 by decide]
  exact (((((((SB.base (r := 0) hn (by decide) hc.2 h0).arr (k := 0) (t := 100) (len := 10) (by decide) rfl rfl (Or.inr rfl) (by decide) (by decide)).arr (k := 1) (t := 100) (len := 10) (by decide) rfl rfl (Or.inr rfl) (by decide) (by decide)).arr (k := 2) (t := 100) (len := 10) (by decide) rfl rfl (Or.inr rfl) (by decide) (by decide)).arr (k := 3) (t := 100) (len := 5) (by decide) rfl rfl (Or.inr rfl) (by decide) (by decide)).arr (k := 4) (t := 100) (len := 31) (by decide) rfl rfl (Or.inr rfl) (by decide) (by decide)).int (k := 5) (v := 0)).fin rfl (by decide) (by decide) ((kI_z (by decide)).trans (by funext j; simp)) (Or.inl rfl)
set_option maxRecDepth 100000 in
set_option maxHeartbeats 4000000 in
theorem r_i11 (hn : gN G = 312) (hc : okO G 311 11) (h0 : I 311 = fun _ => 0) : KQ E (d + 1) mX11_init 311 338 (26, 18116) G I := by
  have hd0 : 0 < d + 1 := Nat.succ_pos d
  refine Ct.run okX11_init TX11_init [] 300 rfl rfl ?_
  simp only [↓tX11_init, ↓opPush, ↓opILoad, ↓opLLoad, ↓opALoad, ↓opIStore, ↓opAStore, ↓opLStore, ↓opIInc, ↓opI1, ↓opII, ↓opID, ↓opLL, ↓opLD, ↓opLI, ↓opI2L, ↓opL2I, ↓opLcmp, ↓opDup, ↓opDupX1, ↓opDup2, ↓opPop, ↓opIf1, ↓opIf2, ↓opGoto, ↓opIRet, ↓opZRet, ↓opLRet, ↓opVRet, ↓opGetI, ↓opGetL, ↓opGetR, ↓opPutI, ↓opPutZ, ↓opPutL, ↓opPutR, ↓opIALoad, ↓opBALoad, ↓opZALoad, ↓opLALoad, ↓opAALoad, ↓opIAStore, ↓opZAStore, ↓opLAStore, ↓opALen, ↓opGetS, ↓opGetC, ↓opStrV, ↓opStrC, ↓opCallV, ↓opCallS, ↓opSw, ↓opCopy, ↓opCallT, ↓opBRet, ↓opObjI, ↓opNew, ↓opNewA, ↓opANew, ↓opAAStore, ↓opMNew, ↓opCallI, ↓wp_s, ↓wp_0, ↓popI_c, ↓popL_c, ↓popR_c, ↓pop1_i, ↓pop1_r, ↓ldI_0, ↓ldI_s, ↓ldL_0, ↓ldL_s, ↓ldR_0, ↓ldR_s, ↓stL_0, ↓stL_s, ↓tk_0, ↓tk_s, ↓Kc_s, ↓Kc_n, isS_0, isS_s, asP_c, gi_0, gi_s, noL_0, noL_s, isW_n, isW_i, isW_r, rcv_c, rcvT_c, swK_0, swK_s, catS, or_false, false_or, not_false_eq_true, not_true_eq_false, true_implies, false_implies, and_true, true_and, ↓reduceIte, Nat.reduceAdd, Nat.reduceLT, Nat.reduceLeDiff, Nat.reduceEqDiff, Nat.reduceSub, forall_const, eq_self, and_self, or_true, true_or, lve_i, lve_r, lve_l, lve_0, List.replicate_succ, List.replicate_zero, mX, mX11_init, hd0, hc, hc.2, okO_gpP, okO_nwE, gC_gpP, gC_nwE, gN_gpP, gN_nw, hn, show (2 : Int32).toNatClampNeg = 2 by decide, show ¬ (2 : Int32) < 0 by decide, show (5 : Int32).toNatClampNeg = 5 by decide, show ¬ (5 : Int32) < 0 by decide, show (6 : Int32).toNatClampNeg = 6 by decide, show ¬ (6 : Int32) < 0 by decide, show (10 : Int32).toNatClampNeg = 10 by decide, show ¬ (10 : Int32) < 0 by decide, show (31 : Int32).toNatClampNeg = 31 by decide, show ¬ (31 : Int32) < 0 by decide, show (40 : Int32).toNatClampNeg = 40 by decide, show ¬ (40 : Int32) < 0 by decide, show (80 : Int32).toNatClampNeg = 80 by decide, show ¬ (80 : Int32) < 0 by decide, show (232 : Int32).toNatClampNeg = 232 by decide, show ¬ (232 : Int32) < 0 by decide, show (240 : Int32).toNatClampNeg = 240 by decide, show ¬ (240 : Int32) < 0 by decide, show (561 : Int32).toNatClampNeg = 561 by decide, show ¬ (561 : Int32) < 0 by decide, show (700 : Int32).toNatClampNeg = 700 by decide, show ¬ (700 : Int32) < 0 by decide, show (2600 : Int32).toNatClampNeg = 2600 by decide, show ¬ (2600 : Int32) < 0 by decide, show (9280 : Int32).toNatClampNeg = 9280 by decide, show ¬ (9280 : Int32) < 0 by decide]
  exact (((((((((((((((((((((((((((((SB.base (r := 0) hn (by decide) hc.2 h0).arr (k := 1) (t := 100) (len := 240) (by decide) rfl rfl (Or.inr rfl) (by decide) (by decide)).arr (k := 6) (t := 100) (len := 2600) (by decide) rfl rfl (Or.inr rfl) (by decide) (by decide)).arr (k := 7) (t := 100) (len := 2600) (by decide) rfl rfl (Or.inr rfl) (by decide) (by decide)).arr (k := 8) (t := 100) (len := 5) (by decide) rfl rfl (Or.inr rfl) (by decide) (by decide)).arr (k := 9) (t := 100) (len := 5) (by decide) rfl rfl (Or.inr rfl) (by decide) (by decide)).arr (k := 10) (t := 100) (len := 700) (by decide) rfl rfl (Or.inr rfl) (by decide) (by decide)).arr (k := 11) (t := 100) (len := 700) (by decide) rfl rfl (Or.inr rfl) (by decide) (by decide)).arr (k := 12) (t := 100) (len := 700) (by decide) rfl rfl (Or.inr rfl) (by decide) (by decide)).arr (k := 15) (t := 100) (len := 6) (by decide) rfl rfl (Or.inr rfl) (by decide) (by decide)).arr (k := 16) (t := 100) (len := 80) (by decide) rfl rfl (Or.inr rfl) (by decide) (by decide)).arr (k := 17) (t := 100) (len := 2) (by decide) rfl rfl (Or.inr rfl) (by decide) (by decide)).arr (k := 18) (t := 100) (len := 10) (by decide) rfl rfl (Or.inr rfl) (by decide) (by decide)).arr (k := 19) (t := 100) (len := 40) (by decide) rfl rfl (Or.inr rfl) (by decide) (by decide)).arr (k := 22) (t := 100) (len := 2) (by decide) rfl rfl (Or.inr rfl) (by decide) (by decide)).arr (k := 23) (t := 100) (len := 10) (by decide) rfl rfl (Or.inr rfl) (by decide) (by decide)).arr (k := 24) (t := 100) (len := 40) (by decide) rfl rfl (Or.inr rfl) (by decide) (by decide)).arr (k := 27) (t := 100) (len := 232) (by decide) rfl rfl (Or.inr rfl) (by decide) (by decide)).arr (k := 28) (t := 100) (len := 5) (by decide) rfl rfl (Or.inr rfl) (by decide) (by decide)).int (k := 29) (v := (-1))).int (k := 30) (v := 2)).arr (k := 31) (t := 100) (len := 9280) (by decide) rfl rfl (Or.inr rfl) (by decide) (by decide)).arr (k := 34) (t := 100) (len := 561) (by decide) rfl rfl (Or.inr rfl) (by decide) (by decide)).arr (k := 37) (t := 100) (len := 10) (by decide) rfl rfl (Or.inr rfl) (by decide) (by decide)).arr (k := 38) (t := 100) (len := 10) (by decide) rfl rfl (Or.inr rfl) (by decide) (by decide)).arr (k := 39) (t := 102) (len := 10) (by decide) rfl rfl (Or.inr rfl) (by decide) (by decide)).arr (k := 41) (t := 100) (len := 31) (by decide) rfl rfl (Or.inr rfl) (by decide) (by decide)).arr (k := 42) (t := 100) (len := 5) (by decide) rfl rfl (Or.inr rfl) (by decide) (by decide)).arr (k := 43) (t := 100) (len := 232) (by decide) rfl rfl (Or.inr rfl) (by decide) (by decide)).fin rfl (by decide) (by decide) (by
    funext j
    unfold kI
    by_cases e29 : j = 29
    · subst e29; rfl
    by_cases e30 : j = 30
    · subst e30; rfl
    simp [e29, e30]) (Or.inl rfl)
end
