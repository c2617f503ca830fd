/-! ===== GrudgeTown$State: what it changes ===== -/
def fgV (p q : Int32) (V : SV) : SV := upr V 3 (fun j => if V 1 j = p ∧ V 2 j = q then 0 else V 3 j)
section
variable {E : EV} {d : Nat} {G : GD} {I : IM}
set_option maxRecDepth 100000 in
set_option maxHeartbeats 4000000 in
theorem c_forgiveAll {i : Nat} (hS : isSt G i) (p q : Int32) : Run E d mX6_forgiveAll [.ref i, .int p, .int q] (0, 0) G I none G (putS I i (fgV p q (getS I i))) := by
  obtain ⟨h0, h1, h2, h3, h4, a1, a2, a3, a4, l1, l2, l3, l4⟩ := hS
  unfold fgV
  rw [putS_row (by decide) (by decide)]
  generalize hg : (fun j => if getS I i 1 j = p ∧ getS I i 2 j = q then (0 : Int32) else getS I i 3 j) = g
  have key : ∀ k, k ≤ 12 → Ex E d mX6_forgiveAll (fun a b c => a = none ∧ b = G ∧ c = rowN I (i + 3) g 12) 2 [some (.ref i), some (.int p), some (.int q), some (.int (nI k))] [] (0, 0) G (rowN I (i + 3) g k) := by
    refine dn ?_ ?_
    · refine Ex.run TX6_forgiveAll [2] 40 ?_
      simp only [↓tX6_forgiveAll, ↓opPush, ↓opILoad, ↓opLLoad, ↓opALoad, ↓opIStore, ↓opAStore, ↓opLStore, ↓opIInc, ↓opI1, ↓opII, ↓opID, ↓opLL, ↓opLD, ↓opLI, ↓opI2L, ↓opL2I, ↓opLcmp, ↓opDup, ↓opDupX1, ↓opDup2, ↓opPop, ↓opIf1, ↓opIf2, ↓opGoto, ↓opIRet, ↓opZRet, ↓opLRet, ↓opVRet, ↓opGetI, ↓opGetL, ↓opGetR, ↓opPutI, ↓opPutZ, ↓opPutL, ↓opPutR, ↓opIALoad, ↓opBALoad, ↓opZALoad, ↓opLALoad, ↓opAALoad, ↓opIAStore, ↓opZAStore, ↓opLAStore, ↓opALen, ↓opGetS, ↓opGetC, ↓opStrV, ↓opStrC, ↓opCallV, ↓opCallS, ↓opSw, ↓opCopy, ↓opCallT, ↓opBRet, ↓opObjI, ↓opNew, ↓opNewA, ↓opANew, ↓opAAStore, ↓opMNew, ↓opCallI, ↓wp_s, ↓wp_0, ↓popI_c, ↓popL_c, ↓popR_c, ↓pop1_i, ↓pop1_r, ↓ldI_0, ↓ldI_s, ↓ldL_0, ↓ldL_s, ↓ldR_0, ↓ldR_s, ↓stL_0, ↓stL_s, ↓tk_0, ↓tk_s, ↓Kc_s, ↓Kc_n, isS_0, isS_s, asP_c, gi_0, gi_s, noL_0, noL_s, isW_n, isW_i, isW_r, rcv_c, rcvT_c, swK_0, swK_s, catS, or_false, false_or, not_false_eq_true, not_true_eq_false, true_implies, false_implies, and_true, true_and, ↓reduceIte, Nat.reduceAdd, Nat.reduceLT, Nat.reduceLeDiff, Nat.reduceEqDiff, Nat.reduceSub, forall_const, eq_self, and_self, or_true, true_or, lpT (N := 12) (n := 12) rfl]
    · intro k hk ih
      have e1 : (nI k).toNatClampNeg = k := nI_clamp (by omega); have e2 : vp_in (nI k) 12 := vp_in_nI hk (by omega); have e3 := lpF (N := 12) (n := 12) (k := k) rfl hk (by decide)
      have r1 : rowN I (i + 3) g k (i + 1) = I (i + 1) := rowN_ne (by omega)
      have r2 : rowN I (i + 3) g k (i + 2) = I (i + 2) := rowN_ne (by omega)
      have hgk : g k = if I (i + 1) k = p ∧ I (i + 2) k = q then 0 else I (i + 3) k := by rw [← hg]; rfl
      refine Ex.run TX6_forgiveAll [2] 40 ?_
      simp only [↓tX6_forgiveAll, ↓opPush, ↓opILoad, ↓opLLoad, ↓opALoad, ↓opIStore, ↓opAStore, ↓opLStore, ↓opIInc, ↓opI1, ↓opII, ↓opID, ↓opLL, ↓opLD, ↓opLI, ↓opI2L, ↓opL2I, ↓opLcmp, ↓opDup, ↓opDupX1, ↓opDup2, ↓opPop, ↓opIf1, ↓opIf2, ↓opGoto, ↓opIRet, ↓opZRet, ↓opLRet, ↓opVRet, ↓opGetI, ↓opGetL, ↓opGetR, ↓opPutI, ↓opPutZ, ↓opPutL, ↓opPutR, ↓opIALoad, ↓opBALoad, ↓opZALoad, ↓opLALoad, ↓opAALoad, ↓opIAStore, ↓opZAStore, ↓opLAStore, ↓opALen, ↓opGetS, ↓opGetC, ↓opStrV, ↓opStrC, ↓opCallV, ↓opCallS, ↓opSw, ↓opCopy, ↓opCallT, ↓opBRet, ↓opObjI, ↓opNew, ↓opNewA, ↓opANew, ↓opAAStore, ↓opMNew, ↓opCallI, ↓wp_s, ↓wp_0, ↓popI_c, ↓popL_c, ↓popR_c, ↓pop1_i, ↓pop1_r, ↓ldI_0, ↓ldI_s, ↓ldL_0, ↓ldL_s, ↓ldR_0, ↓ldR_s, ↓stL_0, ↓stL_s, ↓tk_0, ↓tk_s, ↓Kc_s, ↓Kc_n, isS_0, isS_s, asP_c, gi_0, gi_s, noL_0, noL_s, isW_n, isW_i, isW_r, rcv_c, rcvT_c, swK_0, swK_s, catS, or_false, false_or, not_false_eq_true, not_true_eq_false, true_implies, false_implies, and_true, true_and, ↓reduceIte, Nat.reduceAdd, Nat.reduceLT, Nat.reduceLeDiff, Nat.reduceEqDiff, Nat.reduceSub, forall_const, eq_self, and_self, or_true, true_or, e3, h0, ↓asP_h h1, ↓asP_h h2, ↓asP_h h3, ↓asP_h h4, a1, a2, a3, a4, a1.A, a2.A, a3.A, a4.A, l1, l2, l3, l4, e1, e2, r1, r2]
      refine ⟨fun c1 => ⟨fun c2 => ?_, fun c2 => ?_⟩, fun c1 => ?_⟩
      · exact ih.to (by simp [nI_succ]) (rowN_s (by rw [hgk, if_pos ⟨c1, c2⟩])).symm
      · exact ih.to (by simp [nI_succ]) (rowN_same (by rw [hgk, if_neg (fun q => c2 q.2)])).symm
      · exact ih.to (by simp [nI_succ]) (rowN_same (by rw [hgk, if_neg (fun q => c1 q.1)])).symm
  refine Ct.run okX6_forgiveAll TX6_forgiveAll [2] 40 rfl rfl ?_
  simp only [↓tX6_forgiveAll, ↓opPush, ↓opILoad, ↓opLLoad, ↓opALoad, ↓opIStore, ↓opAStore, ↓opLStore, ↓opIInc, ↓opI1, ↓opII, ↓opID, ↓opLL, ↓opLD, ↓opLI, ↓opI2L, ↓opL2I, ↓opLcmp, ↓opDup, ↓opDupX1, ↓opDup2, ↓opPop, ↓opIf1, ↓opIf2, ↓opGoto, ↓opIRet, ↓opZRet, ↓opLRet, ↓opVRet, ↓opGetI, ↓opGetL, ↓opGetR, ↓opPutI, ↓opPutZ, ↓opPutL, ↓opPutR, ↓opIALoad, ↓opBALoad, ↓opZALoad, ↓opLALoad, ↓opAALoad, ↓opIAStore, ↓opZAStore, ↓opLAStore, ↓opALen, ↓opGetS, ↓opGetC, ↓opStrV, ↓opStrC, ↓opCallV, ↓opCallS, ↓opSw, ↓opCopy, ↓opCallT, ↓opBRet, ↓opObjI, ↓opNew, ↓opNewA, ↓opANew, ↓opAAStore, ↓opMNew, ↓opCallI, ↓wp_s, ↓wp_0, ↓popI_c, ↓popL_c, ↓popR_c, ↓pop1_i, ↓pop1_r, ↓ldI_0, ↓ldI_s, ↓ldL_0, ↓ldL_s, ↓ldR_0, ↓ldR_s, ↓stL_0, ↓stL_s, ↓tk_0, ↓tk_s, ↓Kc_s, ↓Kc_n, isS_0, isS_s, asP_c, gi_0, gi_s, noL_0, noL_s, isW_n, isW_i, isW_r, rcv_c, rcvT_c, swK_0, swK_s, catS, or_false, false_or, not_false_eq_true, not_true_eq_false, true_implies, false_implies, and_true, true_and, ↓reduceIte, Nat.reduceAdd, Nat.reduceLT, Nat.reduceLeDiff, Nat.reduceEqDiff, Nat.reduceSub, forall_const, eq_self, and_self, or_true, true_or, lve_i, lve_r, lve_l, lve_0, List.replicate_succ, List.replicate_zero, mX, mX6_forgiveAll]
  have := key 0 (by omega)
  rw [rowN_0] at this
  exact this
set_option maxRecDepth 100000 in
set_option maxHeartbeats 4000000 in
theorem c_copyFrom {i j : Nat} (hS : isSt G i) (hS' : isSt G j) (hij : i + 4 < j ∨ j + 4 < i) : Run E (d + 1) mX6_copyFrom [.ref i, .ref j] (0, 0) G I none G (putS I i (getS I j)) := by
  obtain ⟨h0, h1, h2, h3, h4, a1, a2, a3, a4, l1, l2, l3, l4⟩ := hS
  obtain ⟨g0, g1, g2, g3, g4, b1, b2, b3, b4, m1, m2, m3, m4⟩ := hS'
  have z1 : ¬ (0 : Int32) < 0 := by decide
  have z2 : ¬ (12 : Int32) < 0 := by decide
  have z3 : (0 : Int32).toNatClampNeg + (12 : Int32).toNatClampNeg ≤ 12 := by decide
  have z4 : (0 : Int32).toNatClampNeg = 0 := by decide
  have z5 : (12 : Int32).toNatClampNeg = 12 := by decide
  refine Ct.run okX6_copyFrom TX6_copyFrom [] 60 rfl rfl ?_
  simp only [↓tX6_copyFrom, ↓opPush, ↓opILoad, ↓opLLoad, ↓opALoad, ↓opIStore, ↓opAStore, ↓opLStore, ↓opIInc, ↓opI1, ↓opII, ↓opID, ↓opLL, ↓opLD, ↓opLI, ↓opI2L, ↓opL2I, ↓opLcmp, ↓opDup, ↓opDupX1, ↓opDup2, ↓opPop, ↓opIf1, ↓opIf2, ↓opGoto, ↓opIRet, ↓opZRet, ↓opLRet, ↓opVRet, ↓opGetI, ↓opGetL, ↓opGetR, ↓opPutI, ↓opPutZ, ↓opPutL, ↓opPutR, ↓opIALoad, ↓opBALoad, ↓opZALoad, ↓opLALoad, ↓opAALoad, ↓opIAStore, ↓opZAStore, ↓opLAStore, ↓opALen, ↓opGetS, ↓opGetC, ↓opStrV, ↓opStrC, ↓opCallV, ↓opCallS, ↓opSw, ↓opCopy, ↓opCallT, ↓opBRet, ↓opObjI, ↓opNew, ↓opNewA, ↓opANew, ↓opAAStore, ↓opMNew, ↓opCallI, ↓wp_s, ↓wp_0, ↓popI_c, ↓popL_c, ↓popR_c, ↓pop1_i, ↓pop1_r, ↓ldI_0, ↓ldI_s, ↓ldL_0, ↓ldL_s, ↓ldR_0, ↓ldR_s, ↓stL_0, ↓stL_s, ↓tk_0, ↓tk_s, ↓Kc_s, ↓Kc_n, isS_0, isS_s, asP_c, gi_0, gi_s, noL_0, noL_s, isW_n, isW_i, isW_r, rcv_c, rcvT_c, swK_0, swK_s, catS, or_false, false_or, not_false_eq_true, not_true_eq_false, true_implies, false_implies, and_true, true_and, ↓reduceIte, Nat.reduceAdd, Nat.reduceLT, Nat.reduceLeDiff, Nat.reduceEqDiff, Nat.reduceSub, forall_const, eq_self, and_self, or_true, true_or, lve_i, lve_r, lve_l, lve_0, List.replicate_succ, List.replicate_zero, mX, mX6_copyFrom, h0, ↓asP_h h1, ↓asP_h h2, ↓asP_h h3, ↓asP_h h4, a1, a2, a3, a4, a1.A, a2.A, a3.A, a4.A, l1, l2, l3, l4, g0, ↓asP_h g1, ↓asP_h g2, ↓asP_h g3, ↓asP_h g4, b1, b2, b3, b4, m1, m2, m3, m4, z1, z2, z3, z4, z5, Nat.zero_add, Nat.le_refl, Nat.zero_lt_succ]
  refine (putS_eq (fun r k hk => ?_) (fun b k hk => ?_)).symm
  · have hc : r = 0 ∨ r = 1 ∨ r = 2 ∨ r = 3 ∨ r = 4 := by unfold inSt at hk; omega
    unfold getS
    rcases hc with rfl | rfl | rfl | rfl | rfl
    · have hk3 : k = 4 ∨ k = 5 ∨ k = 6 := by unfold inSt at hk; omega
      rcases hk3 with rfl | rfl | rfl <;> simp [up2, upr, show ¬ j = i by omega, show ¬ j = i + 1 by omega, show ¬ j = i + 2 by omega, show ¬ j = i + 3 by omega, show ¬ j = i + 4 by omega]
    · have hk3 : k < 12 := by unfold inSt at hk; omega
      simp [up2, upr, va_cpy, hk3]
    · have hk3 : k < 12 := by unfold inSt at hk; omega
      simp [up2, upr, va_cpy, hk3, show ¬ j + 2 = i + 1 by omega]
    · have hk3 : k < 12 := by unfold inSt at hk; omega
      simp [up2, upr, va_cpy, hk3, show ¬ j + 3 = i + 1 by omega, show ¬ j + 3 = i + 2 by omega]
    · have hk3 : k < 12 := by unfold inSt at hk; omega
      simp [up2, upr, va_cpy, hk3, show ¬ j + 4 = i + 1 by omega, show ¬ j + 4 = i + 2 by omega, show ¬ j + 4 = i + 3 by omega]
  · have hb : b = i ∨ b = i + 1 ∨ b = i + 2 ∨ b = i + 3 ∨ b = i + 4 ∨ (b < i ∨ i + 4 < b) := by omega
    unfold inSt at hk
    rcases hb with rfl | rfl | rfl | rfl | rfl | hb
    · simp [up2, upr, show ¬ k = 4 by omega, show ¬ k = 5 by omega, show ¬ k = 6 by omega]
    · simp [up2, upr, va_cpy, show ¬ k < 12 by omega]
    · simp [up2, upr, va_cpy, show ¬ k < 12 by omega]
    · simp [up2, upr, va_cpy, show ¬ k < 12 by omega]
    · simp [up2, upr, va_cpy, show ¬ k < 12 by omega]
    · simp [up2, upr, show ¬ b = i by omega, show ¬ b = i + 1 by omega, show ¬ b = i + 2 by omega, show ¬ b = i + 3 by omega, show ¬ b = i + 4 by omega]
end
