/-! ===== Tape.append, Log, Acts, Town ===== -/
def ap1 (I : IM) (b : Int32) : IM := if b = 0 then I else if 240 ≤ I 1 1 then I else up2 (up2 I 2 (I 1 1).toNatClampNeg b) 1 1 (I 1 1 + 1)
def ap4 (I : IM) (x : Int32) : IM := ap1 (ap1 (ap1 (ap1 I (byt x 24)) (byt x 16)) (byt x 8)) (byt x 0)
/-- a number within 0 .. N -/
def rng (x : Int32) (N : Nat) : Prop := ∃ n : Nat, n ≤ N ∧ x = nI n
theorem rng_lt {x N : Int32} {n : Nat} (h : rng x n) (hN : nI n = N) (hn : n < 2 ^ 31) (c : ¬ N ≤ x) : vp_in x n := by
  obtain ⟨j, hj, rfl⟩ := h
  subst hN
  have : j < n := by
    rcases Nat.lt_or_ge j n with q | q
    · exact q
    · exact absurd (nI_le q (by omega)) c
  exact vp_in_nI this (by omega)
theorem rng_1 {x N : Int32} {n : Nat} (h : rng x n) (hN : nI n = N) (hn : n < 2 ^ 31) (c : ¬ N ≤ x) : rng (x + 1) n := by
  obtain ⟨j, hj, rfl⟩ := h
  subst hN
  have : j < n := by
    rcases Nat.lt_or_ge j n with q | q
    · exact q
    · exact absurd (nI_le q (by omega)) c
  exact ⟨j + 1, this, (nI_succ j).symm ▸ rfl⟩
theorem ap1_rng {I : IM} {b : Int32} (h : rng (I 1 1) 240) : rng (ap1 I b 1 1) 240 := by
  unfold ap1
  split
  · exact h
  · split
    · exact h
    · rename_i c
      simp only [up2, if_true]
      exact rng_1 h rfl (by decide) c
theorem vpL {i : Int32} {n : Nat} (h : (!(decide (i < 0)) && Nat.ble (i.toNatClampNeg + 1) n) = true) : vp_in i n := by
  rw [Bool.and_eq_true, Bool.not_eq_true', decide_eq_false_iff_not] at h
  intro q
  rcases q with q | q
  · exact h.1 q
  · have := Nat.le_of_ble_eq_true h.2
    omega
section
variable {E : EV} {d : Nat} {G : GD} {I : IM}
set_option maxRecDepth 100000 in
set_option maxHeartbeats 4000000 in
theorem l_append (hG : GTs G) {x : Int32} {Q : QT} {b : Nat × Nat} (s s2 : Int32) (hr : rng (I 1 1) 240) (h1 : ¬ s < 0) (h2 : s + -8 = s2) (ih : Ex E d mX7_append Q 3 [some (.ref 1), some (.int x), some (.int s2), none] [] b G (ap1 I (byt x s))) : Ex E d mX7_append Q 3 [some (.ref 1), some (.int x), some (.int s), none] [] b G I := by
  refine Ex.run TX7_append [3] 60 ?_
  have e0 : (ush x s &&& 255) = byt x s := rfl
  simp only [↓tX7_append, ↓opPush, ↓opILoad, ↓opLLoad, ↓opALoad, ↓opIStore, ↓opAStore, ↓opLStore, ↓opIInc, ↓opI1, ↓opII, ↓opID, ↓opLL, ↓opLD, ↓opLI, ↓opI2L, ↓opL2I, ↓opLcmp, ↓opDup, ↓opDupX1, ↓opDup2, ↓opPop, ↓opIf1, ↓opIf2, ↓opGoto, ↓opIRet, ↓opZRet, ↓opLRet, ↓opVRet, ↓opGetI, ↓opGetL, ↓opGetR, ↓opPutI, ↓opPutZ, ↓opPutL, ↓opPutR, ↓opIALoad, ↓opBALoad, ↓opZALoad, ↓opLALoad, ↓opAALoad, ↓opIAStore, ↓opZAStore, ↓opLAStore, ↓opALen, ↓opGetS, ↓opGetC, ↓opStrV, ↓opStrC, ↓opCallV, ↓opCallS, ↓opSw, ↓opCopy, ↓opCallT, ↓opBRet, ↓opObjI, ↓opNew, ↓opNewA, ↓opANew, ↓opAAStore, ↓opMNew, ↓opCallI, ↓wp_s, ↓wp_0, ↓popI_c, ↓popL_c, ↓popR_c, ↓pop1_i, ↓pop1_r, ↓ldI_0, ↓ldI_s, ↓ldL_0, ↓ldL_s, ↓ldR_0, ↓ldR_s, ↓stL_0, ↓stL_s, ↓tk_0, ↓tk_s, ↓Kc_s, ↓Kc_n, isS_0, isS_s, asP_c, gi_0, gi_s, noL_0, noL_s, isW_n, isW_i, isW_r, rcv_c, rcvT_c, swK_0, swK_s, catS, or_false, false_or, not_false_eq_true, not_true_eq_false, true_implies, false_implies, and_true, true_and, ↓reduceIte, Nat.reduceAdd, Nat.reduceLT, Nat.reduceLeDiff, Nat.reduceEqDiff, Nat.reduceSub, forall_const, eq_self, and_self, or_true, true_or, h1, h2, hG.o 1 7 rfl rfl, ↓asP_h (hG.p 1 0 2 rfl rfl), hG.o 2 100 rfl rfl, (hG.o 2 100 rfl rfl).A, hG.l 2 240 rfl rfl, up2, if_true]
  refine ⟨fun c => ?_, fun c => ⟨fun c2 => ?_, fun c2 => ⟨rng_lt hr rfl (by decide) c2, ?_⟩⟩⟩
  · refine Ex.weak (ih.to (lv' := [some (.ref 1), some (.int x), some (.int s2), none]) rfl ?_) ⟨rfl, rfl, rfl, trivial⟩
    unfold ap1
    exact if_pos c
  · refine Ex.weak (ih.to (lv' := [some (.ref 1), some (.int x), some (.int s2), none]) rfl ?_) ⟨rfl, rfl, rfl, trivial⟩
    unfold ap1
    rw [if_neg (show ¬ byt x s = 0 from c), if_pos c2]
  · refine Ex.weak (ih.to (lv' := [some (.ref 1), some (.int x), some (.int s2), none]) rfl ?_) ⟨rfl, rfl, rfl, trivial⟩
    unfold ap1
    rw [if_neg (show ¬ byt x s = 0 from c), if_neg c2]
    rfl
set_option maxRecDepth 100000 in
set_option maxHeartbeats 4000000 in
theorem c_append (hG : GTs G) (hr : rng (I 1 1) 240) (x : Int32) : Run E d mX7_append [.ref 1, .int x] (0, 0) G I none G (ap4 I x) := by
  refine Ct.run okX7_append TX7_append [3] 40 rfl rfl ?_
  simp only [↓tX7_append, ↓opPush, ↓opILoad, ↓opLLoad, ↓opALoad, ↓opIStore, ↓opAStore, ↓opLStore, ↓opIInc, ↓opI1, ↓opII, ↓opID, ↓opLL, ↓opLD, ↓opLI, ↓opI2L, ↓opL2I, ↓opLcmp, ↓opDup, ↓opDupX1, ↓opDup2, ↓opPop, ↓opIf1, ↓opIf2, ↓opGoto, ↓opIRet, ↓opZRet, ↓opLRet, ↓opVRet, ↓opGetI, ↓opGetL, ↓opGetR, ↓opPutI, ↓opPutZ, ↓opPutL, ↓opPutR, ↓opIALoad, ↓opBALoad, ↓opZALoad, ↓opLALoad, ↓opAALoad, ↓opIAStore, ↓opZAStore, ↓opLAStore, ↓opALen, ↓opGetS, ↓opGetC, ↓opStrV, ↓opStrC, ↓opCallV, ↓opCallS, ↓opSw, ↓opCopy, ↓opCallT, ↓opBRet, ↓opObjI, ↓opNew, ↓opNewA, ↓opANew, ↓opAAStore, ↓opMNew, ↓opCallI, ↓wp_s, ↓wp_0, ↓popI_c, ↓popL_c, ↓popR_c, ↓pop1_i, ↓pop1_r, ↓ldI_0, ↓ldI_s, ↓ldL_0, ↓ldL_s, ↓ldR_0, ↓ldR_s, ↓stL_0, ↓stL_s, ↓tk_0, ↓tk_s, ↓Kc_s, ↓Kc_n, isS_0, isS_s, asP_c, gi_0, gi_s, noL_0, noL_s, isW_n, isW_i, isW_r, rcv_c, rcvT_c, swK_0, swK_s, catS, or_false, false_or, not_false_eq_true, not_true_eq_false, true_implies, false_implies, and_true, true_and, ↓reduceIte, Nat.reduceAdd, Nat.reduceLT, Nat.reduceLeDiff, Nat.reduceEqDiff, Nat.reduceSub, forall_const, eq_self, and_self, or_true, true_or, lve_i, lve_r, lve_l, lve_0, List.replicate_succ, List.replicate_zero, mX, mX7_append]
  refine l_append hG 24 16 hr (by decide) (by decide) ?_
  refine l_append hG 16 8 (ap1_rng hr) (by decide) (by decide) ?_
  refine l_append hG 8 0 (ap1_rng (ap1_rng hr)) (by decide) (by decide) ?_
  refine l_append hG 0 (-8) (ap1_rng (ap1_rng (ap1_rng hr))) (by decide) (by decide) ?_
  refine Ex.run TX7_append [3] 40 ?_
  simp only [↓tX7_append, ↓opPush, ↓opILoad, ↓opLLoad, ↓opALoad, ↓opIStore, ↓opAStore, ↓opLStore, ↓opIInc, ↓opI1, ↓opII, ↓opID, ↓opLL, ↓opLD, ↓opLI, ↓opI2L, ↓opL2I, ↓opLcmp, ↓opDup, ↓opDupX1, ↓opDup2, ↓opPop, ↓opIf1, ↓opIf2, ↓opGoto, ↓opIRet, ↓opZRet, ↓opLRet, ↓opVRet, ↓opGetI, ↓opGetL, ↓opGetR, ↓opPutI, ↓opPutZ, ↓opPutL, ↓opPutR, ↓opIALoad, ↓opBALoad, ↓opZALoad, ↓opLALoad, ↓opAALoad, ↓opIAStore, ↓opZAStore, ↓opLAStore, ↓opALen, ↓opGetS, ↓opGetC, ↓opStrV, ↓opStrC, ↓opCallV, ↓opCallS, ↓opSw, ↓opCopy, ↓opCallT, ↓opBRet, ↓opObjI, ↓opNew, ↓opNewA, ↓opANew, ↓opAAStore, ↓opMNew, ↓opCallI, ↓wp_s, ↓wp_0, ↓popI_c, ↓popL_c, ↓popR_c, ↓pop1_i, ↓pop1_r, ↓ldI_0, ↓ldI_s, ↓ldL_0, ↓ldL_s, ↓ldR_0, ↓ldR_s, ↓stL_0, ↓stL_s, ↓tk_0, ↓tk_s, ↓Kc_s, ↓Kc_n, isS_0, isS_s, asP_c, gi_0, gi_s, noL_0, noL_s, isW_n, isW_i, isW_r, rcv_c, rcvT_c, swK_0, swK_s, catS, or_false, false_or, not_false_eq_true, not_true_eq_false, true_implies, false_implies, and_true, true_and, ↓reduceIte, Nat.reduceAdd, Nat.reduceLT, Nat.reduceLeDiff, Nat.reduceEqDiff, Nat.reduceSub, forall_const, eq_self, and_self, or_true, true_or, show (-8 : Int32) < 0 by decide]
  rfl
/-! Log: floorMod of the day -/
def fmI (x y : Int32) : Int32 := if 0 ≤ x ^^^ y then x - x / y * y else if x - x / y * y = 0 then x - x / y * y else x - x / y * y + y
set_option maxRecDepth 100000 in
set_option maxHeartbeats 4000000 in
theorem c_floorMod (x y : Int32) (hy : ¬ y = 0) : Run E d mJ9_floorMod_7cf53 [.int x, .int y] (0, 0) G I (some (.int (fmI x y))) G I := by
  refine Ct.run okJ9_floorMod_7cf53 TJ9_floorMod_7cf53 [] 40 rfl rfl ?_
  simp only [↓tJ9_floorMod_7cf53, ↓opPush, ↓opILoad, ↓opLLoad, ↓opALoad, ↓opIStore, ↓opAStore, ↓opLStore, ↓opIInc, ↓opI1, ↓opII, ↓opID, ↓opLL, ↓opLD, ↓opLI, ↓opI2L, ↓opL2I, ↓opLcmp, ↓opDup, ↓opDupX1, ↓opDup2, ↓opPop, ↓opIf1, ↓opIf2, ↓opGoto, ↓opIRet, ↓opZRet, ↓opLRet, ↓opVRet, ↓opGetI, ↓opGetL, ↓opGetR, ↓opPutI, ↓opPutZ, ↓opPutL, ↓opPutR, ↓opIALoad, ↓opBALoad, ↓opZALoad, ↓opLALoad, ↓opAALoad, ↓opIAStore, ↓opZAStore, ↓opLAStore, ↓opALen, ↓opGetS, ↓opGetC, ↓opStrV, ↓opStrC, ↓opCallV, ↓opCallS, ↓opSw, ↓opCopy, ↓opCallT, ↓opBRet, ↓opObjI, ↓opNew, ↓opNewA, ↓opANew, ↓opAAStore, ↓opMNew, ↓opCallI, ↓wp_s, ↓wp_0, ↓popI_c, ↓popL_c, ↓popR_c, ↓pop1_i, ↓pop1_r, ↓ldI_0, ↓ldI_s, ↓ldL_0, ↓ldL_s, ↓ldR_0, ↓ldR_s, ↓stL_0, ↓stL_s, ↓tk_0, ↓tk_s, ↓Kc_s, ↓Kc_n, isS_0, isS_s, asP_c, gi_0, gi_s, noL_0, noL_s, isW_n, isW_i, isW_r, rcv_c, rcvT_c, swK_0, swK_s, catS, or_false, false_or, not_false_eq_true, not_true_eq_false, true_implies, false_implies, and_true, true_and, ↓reduceIte, Nat.reduceAdd, Nat.reduceLT, Nat.reduceLeDiff, Nat.reduceEqDiff, Nat.reduceSub, forall_const, eq_self, and_self, or_true, true_or, lve_i, lve_r, lve_l, lve_0, List.replicate_succ, List.replicate_zero, mX, mJ9_floorMod_7cf53, hy]
  refine ⟨fun c => ?_, fun c => ⟨fun c2 => ?_, fun c2 => ?_⟩⟩
  · unfold fmI; rw [if_pos c]
  · unfold fmI; rw [if_neg c, if_pos c2]
  · unfold fmI; rw [if_neg c, if_neg c2]
theorem fm_nI {n : Nat} (h : n < 2 ^ 31) : fmI (nI n) 100 = nI (n % 100) := by
  have e : nI n - nI n / 100 * 100 = nI (n % 100) := pk_rem (d := 100) h (by decide) (by decide)
  unfold fmI
  rw [e]
  have hx : (0 : Int32) ≤ nI n ^^^ 100 := by
    have h1 : (nI n ^^^ nI 100) = nI (n ^^^ 100) := by
      apply Int32.toBitVec_inj.1
      show BitVec.ofNat 32 n ^^^ BitVec.ofNat 32 100 = BitVec.ofNat 32 (n ^^^ 100)
      apply BitVec.eq_of_getLsbD_eq
      intro i hi
      simp [hi]
    have h1 : (nI n ^^^ (100 : Int32)) = nI (n ^^^ 100) := h1
    rw [h1]
    exact nI_pos' (Nat.xor_lt_two_pow h (by decide))
  rw [if_pos hx]
/-- isLog: where a Log's cells lie -/
def isLg (G : GD) (i : Nat) : Prop := okO G i 3 ∧ gP G i 0 = some (i + 1) ∧ gP G i 1 = some (i + 2) ∧ gP G i 2 = some (i + 3) ∧ okO G (i + 1) 100 ∧ okO G (i + 2) 100 ∧ okO G (i + 3) 100 ∧ gL G (i + 1) = 100 ∧ gL G (i + 2) = 100 ∧ gL G (i + 3) = 100
def wrL (I : IM) (i n : Nat) (a b c : Int32) : IM := up2 (up2 (up2 I (i + 1) n a) (i + 2) n b) (i + 3) n c
set_option maxRecDepth 100000 in
set_option maxHeartbeats 4000000 in
theorem c_logWrite {i n : Nat} (hL : isLg G i) (hn : n < 2 ^ 31) (a b c : Int32) : Run E (d + 1) mX3_write [.ref i, .int (nI n), .int a, .int b, .int c] (0, 0) G I none G (wrL I i (n % 100) a b c) := by
  obtain ⟨h0, h1, h2, h3, a1, a2, a3, l1, l2, l3⟩ := hL
  have e1 : (nI (n % 100)).toNatClampNeg = n % 100 := nI_clamp (by omega)
  have e2 : vp_in (nI (n % 100)) 100 := vp_in_nI (by omega) (by omega)
  refine Ct.run okX3_write TX3_write [] 40 rfl rfl ?_
  simp only [↓tX3_write, ↓opPush, ↓opILoad, ↓opLLoad, ↓opALoad, ↓opIStore, ↓opAStore, ↓opLStore, ↓opIInc, ↓opI1, ↓opII, ↓opID, ↓opLL, ↓opLD, ↓opLI, ↓opI2L, ↓opL2I, ↓opLcmp, ↓opDup, ↓opDupX1, ↓opDup2, ↓opPop, ↓opIf1, ↓opIf2, ↓opGoto, ↓opIRet, ↓opZRet, ↓opLRet, ↓opVRet, ↓opGetI, ↓opGetL, ↓opGetR, ↓opPutI, ↓opPutZ, ↓opPutL, ↓opPutR, ↓opIALoad, ↓opBALoad, ↓opZALoad, ↓opLALoad, ↓opAALoad, ↓opIAStore, ↓opZAStore, ↓opLAStore, ↓opALen, ↓opGetS, ↓opGetC, ↓opStrV, ↓opStrC, ↓opCallV, ↓opCallS, ↓opSw, ↓opCopy, ↓opCallT, ↓opBRet, ↓opObjI, ↓opNew, ↓opNewA, ↓opANew, ↓opAAStore, ↓opMNew, ↓opCallI, ↓wp_s, ↓wp_0, ↓popI_c, ↓popL_c, ↓popR_c, ↓pop1_i, ↓pop1_r, ↓ldI_0, ↓ldI_s, ↓ldL_0, ↓ldL_s, ↓ldR_0, ↓ldR_s, ↓stL_0, ↓stL_s, ↓tk_0, ↓tk_s, ↓Kc_s, ↓Kc_n, isS_0, isS_s, asP_c, gi_0, gi_s, noL_0, noL_s, isW_n, isW_i, isW_r, rcv_c, rcvT_c, swK_0, swK_s, catS, or_false, false_or, not_false_eq_true, not_true_eq_false, true_implies, false_implies, and_true, true_and, ↓reduceIte, Nat.reduceAdd, Nat.reduceLT, Nat.reduceLeDiff, Nat.reduceEqDiff, Nat.reduceSub, forall_const, eq_self, and_self, or_true, true_or, lve_i, lve_r, lve_l, lve_0, List.replicate_succ, List.replicate_zero, mX, mX3_write]
  refine ⟨_, _, _, _, rfl, c_floorMod _ _ (by decide), ?_⟩
  rw [fm_nI hn]
  simp only [↓tX3_write, ↓opPush, ↓opILoad, ↓opLLoad, ↓opALoad, ↓opIStore, ↓opAStore, ↓opLStore, ↓opIInc, ↓opI1, ↓opII, ↓opID, ↓opLL, ↓opLD, ↓opLI, ↓opI2L, ↓opL2I, ↓opLcmp, ↓opDup, ↓opDupX1, ↓opDup2, ↓opPop, ↓opIf1, ↓opIf2, ↓opGoto, ↓opIRet, ↓opZRet, ↓opLRet, ↓opVRet, ↓opGetI, ↓opGetL, ↓opGetR, ↓opPutI, ↓opPutZ, ↓opPutL, ↓opPutR, ↓opIALoad, ↓opBALoad, ↓opZALoad, ↓opLALoad, ↓opAALoad, ↓opIAStore, ↓opZAStore, ↓opLAStore, ↓opALen, ↓opGetS, ↓opGetC, ↓opStrV, ↓opStrC, ↓opCallV, ↓opCallS, ↓opSw, ↓opCopy, ↓opCallT, ↓opBRet, ↓opObjI, ↓opNew, ↓opNewA, ↓opANew, ↓opAAStore, ↓opMNew, ↓opCallI, ↓wp_s, ↓wp_0, ↓popI_c, ↓popL_c, ↓popR_c, ↓pop1_i, ↓pop1_r, ↓ldI_0, ↓ldI_s, ↓ldL_0, ↓ldL_s, ↓ldR_0, ↓ldR_s, ↓stL_0, ↓stL_s, ↓tk_0, ↓tk_s, ↓Kc_s, ↓Kc_n, isS_0, isS_s, asP_c, gi_0, gi_s, noL_0, noL_s, isW_n, isW_i, isW_r, rcv_c, rcvT_c, swK_0, swK_s, catS, or_false, false_or, not_false_eq_true, not_true_eq_false, true_implies, false_implies, and_true, true_and, ↓reduceIte, Nat.reduceAdd, Nat.reduceLT, Nat.reduceLeDiff, Nat.reduceEqDiff, Nat.reduceSub, forall_const, eq_self, and_self, or_true, true_or, h0, ↓asP_h h1, ↓asP_h h2, ↓asP_h h3, a1, a2, a3, l1, l2, l3, e1, e2]
  rfl
set_option maxRecDepth 100000 in
set_option maxHeartbeats 4000000 in
theorem c_logRead {i n : Nat} (hL : isLg G i) (hn : n < 2 ^ 31) (w : Int32) : Run E (d + 1) mX3_read [.ref i, .int (nI n), .int w] (0, 0) G I (some (.int (if w = 0 then I (i + 1) (n % 100) else if w = 1 then I (i + 2) (n % 100) else if w = 2 then I (i + 3) (n % 100) else -1))) G I := by
  obtain ⟨h0, h1, h2, h3, a1, a2, a3, l1, l2, l3⟩ := hL
  have e1 : (nI (n % 100)).toNatClampNeg = n % 100 := nI_clamp (by omega)
  have e2 : vp_in (nI (n % 100)) 100 := vp_in_nI (by omega) (by omega)
  refine Ct.run okX3_read TX3_read [] 40 rfl rfl ?_
  simp only [↓tX3_read, ↓opPush, ↓opILoad, ↓opLLoad, ↓opALoad, ↓opIStore, ↓opAStore, ↓opLStore, ↓opIInc, ↓opI1, ↓opII, ↓opID, ↓opLL, ↓opLD, ↓opLI, ↓opI2L, ↓opL2I, ↓opLcmp, ↓opDup, ↓opDupX1, ↓opDup2, ↓opPop, ↓opIf1, ↓opIf2, ↓opGoto, ↓opIRet, ↓opZRet, ↓opLRet, ↓opVRet, ↓opGetI, ↓opGetL, ↓opGetR, ↓opPutI, ↓opPutZ, ↓opPutL, ↓opPutR, ↓opIALoad, ↓opBALoad, ↓opZALoad, ↓opLALoad, ↓opAALoad, ↓opIAStore, ↓opZAStore, ↓opLAStore, ↓opALen, ↓opGetS, ↓opGetC, ↓opStrV, ↓opStrC, ↓opCallV, ↓opCallS, ↓opSw, ↓opCopy, ↓opCallT, ↓opBRet, ↓opObjI, ↓opNew, ↓opNewA, ↓opANew, ↓opAAStore, ↓opMNew, ↓opCallI, ↓wp_s, ↓wp_0, ↓popI_c, ↓popL_c, ↓popR_c, ↓pop1_i, ↓pop1_r, ↓ldI_0, ↓ldI_s, ↓ldL_0, ↓ldL_s, ↓ldR_0, ↓ldR_s, ↓stL_0, ↓stL_s, ↓tk_0, ↓tk_s, ↓Kc_s, ↓Kc_n, isS_0, isS_s, asP_c, gi_0, gi_s, noL_0, noL_s, isW_n, isW_i, isW_r, rcv_c, rcvT_c, swK_0, swK_s, catS, or_false, false_or, not_false_eq_true, not_true_eq_false, true_implies, false_implies, and_true, true_and, ↓reduceIte, Nat.reduceAdd, Nat.reduceLT, Nat.reduceLeDiff, Nat.reduceEqDiff, Nat.reduceSub, forall_const, eq_self, and_self, or_true, true_or, lve_i, lve_r, lve_l, lve_0, List.replicate_succ, List.replicate_zero, mX, mX3_read]
  refine ⟨_, _, _, _, rfl, c_floorMod _ _ (by decide), ?_⟩
  rw [fm_nI hn]
  simp only [↓tX3_read, ↓opPush, ↓opILoad, ↓opLLoad, ↓opALoad, ↓opIStore, ↓opAStore, ↓opLStore, ↓opIInc, ↓opI1, ↓opII, ↓opID, ↓opLL, ↓opLD, ↓opLI, ↓opI2L, ↓opL2I, ↓opLcmp, ↓opDup, ↓opDupX1, ↓opDup2, ↓opPop, ↓opIf1, ↓opIf2, ↓opGoto, ↓opIRet, ↓opZRet, ↓opLRet, ↓opVRet, ↓opGetI, ↓opGetL, ↓opGetR, ↓opPutI, ↓opPutZ, ↓opPutL, ↓opPutR, ↓opIALoad, ↓opBALoad, ↓opZALoad, ↓opLALoad, ↓opAALoad, ↓opIAStore, ↓opZAStore, ↓opLAStore, ↓opALen, ↓opGetS, ↓opGetC, ↓opStrV, ↓opStrC, ↓opCallV, ↓opCallS, ↓opSw, ↓opCopy, ↓opCallT, ↓opBRet, ↓opObjI, ↓opNew, ↓opNewA, ↓opANew, ↓opAAStore, ↓opMNew, ↓opCallI, ↓wp_s, ↓wp_0, ↓popI_c, ↓popL_c, ↓popR_c, ↓pop1_i, ↓pop1_r, ↓ldI_0, ↓ldI_s, ↓ldL_0, ↓ldL_s, ↓ldR_0, ↓ldR_s, ↓stL_0, ↓stL_s, ↓tk_0, ↓tk_s, ↓Kc_s, ↓Kc_n, isS_0, isS_s, asP_c, gi_0, gi_s, noL_0, noL_s, isW_n, isW_i, isW_r, rcv_c, rcvT_c, swK_0, swK_s, catS, or_false, false_or, not_false_eq_true, not_true_eq_false, true_implies, false_implies, and_true, true_and, ↓reduceIte, Nat.reduceAdd, Nat.reduceLT, Nat.reduceLeDiff, Nat.reduceEqDiff, Nat.reduceSub, forall_const, eq_self, and_self, or_true, true_or, h0, ↓asP_h h1, ↓asP_h h2, ↓asP_h h3, a1.A, a2.A, a3.A, l1, l2, l3, e1, e2]
  refine ⟨fun c => by rw [if_pos c], fun c => ⟨fun c2 => by rw [if_neg c, if_pos c2], fun c2 => ⟨fun c3 => by rw [if_neg c, if_neg c2, if_pos c3], fun c3 => by rw [if_neg c, if_neg c2, if_neg c3]⟩⟩⟩
def cpL (I : IM) (i j : Nat) : IM := fun b k => if (b = i + 1 ∨ b = i + 2 ∨ b = i + 3) ∧ k < 100 then I (j + (b - i)) k else I b k
set_option maxRecDepth 100000 in
set_option maxHeartbeats 4000000 in
theorem c_logCopy {i j : Nat} (hL : isLg G i) (hL' : isLg G j) (hij : i + 3 < j ∨ j + 3 < i) : Run E (d + 1) mX3_copyFrom [.ref i, .ref j] (0, 0) G I none G (cpL I i j) := by
  obtain ⟨h0, h1, h2, h3, a1, a2, a3, l1, l2, l3⟩ := hL
  obtain ⟨g0, g1, g2, g3, b1, b2, b3, m1, m2, m3⟩ := hL'
  have z1 : ¬ (0 : Int32) < 0 := by decide
  have z2 : ¬ (100 : Int32) < 0 := by decide
  have z4 : (0 : Int32).toNatClampNeg = 0 := by decide
  have z5 : (100 : Int32).toNatClampNeg = 100 := by decide
  refine Ct.run okX3_copyFrom TX3_copyFrom [] 60 rfl rfl ?_
  simp only [↓tX3_copyFrom, ↓opPush, ↓opILoad, ↓opLLoad, ↓opALoad, ↓opIStore, ↓opAStore, ↓opLStore, ↓opIInc, ↓opI1, ↓opII, ↓opID, ↓opLL, ↓opLD, ↓opLI, ↓opI2L, ↓opL2I, ↓opLcmp, ↓opDup, ↓opDupX1, ↓opDup2, ↓opPop, ↓opIf1, ↓opIf2, ↓opGoto, ↓opIRet, ↓opZRet, ↓opLRet, ↓opVRet, ↓opGetI, ↓opGetL, ↓opGetR, ↓opPutI, ↓opPutZ, ↓opPutL, ↓opPutR, ↓opIALoad, ↓opBALoad, ↓opZALoad, ↓opLALoad, ↓opAALoad, ↓opIAStore, ↓opZAStore, ↓opLAStore, ↓opALen, ↓opGetS, ↓opGetC, ↓opStrV, ↓opStrC, ↓opCallV, ↓opCallS, ↓opSw, ↓opCopy, ↓opCallT, ↓opBRet, ↓opObjI, ↓opNew, ↓opNewA, ↓opANew, ↓opAAStore, ↓opMNew, ↓opCallI, ↓wp_s, ↓wp_0, ↓popI_c, ↓popL_c, ↓popR_c, ↓pop1_i, ↓pop1_r, ↓ldI_0, ↓ldI_s, ↓ldL_0, ↓ldL_s, ↓ldR_0, ↓ldR_s, ↓stL_0, ↓stL_s, ↓tk_0, ↓tk_s, ↓Kc_s, ↓Kc_n, isS_0, isS_s, asP_c, gi_0, gi_s, noL_0, noL_s, isW_n, isW_i, isW_r, rcv_c, rcvT_c, swK_0, swK_s, catS, or_false, false_or, not_false_eq_true, not_true_eq_false, true_implies, false_implies, and_true, true_and, ↓reduceIte, Nat.reduceAdd, Nat.reduceLT, Nat.reduceLeDiff, Nat.reduceEqDiff, Nat.reduceSub, forall_const, eq_self, and_self, or_true, true_or, lve_i, lve_r, lve_l, lve_0, List.replicate_succ, List.replicate_zero, mX, mX3_copyFrom, h0, ↓asP_h h1, ↓asP_h h2, ↓asP_h h3, a1, a2, a3, l1, l2, l3, g0, ↓asP_h g1, ↓asP_h g2, ↓asP_h g3, b1, b2, b3, m1, m2, m3, z1, z2, z4, z5, Nat.zero_add, Nat.le_refl, Nat.zero_lt_succ]
  funext b k
  unfold cpL upr va_cpy
  by_cases e1 : b = i + 1
  · subst e1
    by_cases hk : k < 100
    · simp [hk]
    · simp [hk]
  · by_cases e2 : b = i + 2
    · subst e2
      by_cases hk : k < 100
      · simp [hk, show ¬ j + 2 = i + 1 by omega]
      · simp [hk]
    · by_cases e3 : b = i + 3
      · subst e3
        by_cases hk : k < 100
        · simp [hk, show ¬ j + 3 = i + 1 by omega, show ¬ j + 3 = i + 2 by omega]
        · simp [hk]
      · simp [e1, e2, e3]
end
