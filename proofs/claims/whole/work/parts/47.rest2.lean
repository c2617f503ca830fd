/-! ===== GrudgeTown: what fits, treaties, rests, least rows ===== -/
def itr (f : Int32) : Nat → SV → SV
  | 0, V => V
  | n + 1, V => sunF f (itr f n V)
def ftR (I : IM) (f : Int32) (V : SV) (s : Nat) : IM := fun b k => if b = 261 ∧ 1 ≤ k ∧ k ≤ s then itr f k V 0 4 else I b k
def ftV (I : IM) (g : Nat) (w : Int32) : SV := up2 (getS I 18) 3 g w
def ftI (I : IM) (g : Nat) (w : Int32) : IM := putS (ftR I (I 15 2) (ftV I g w) 30) 266 (itr (I 15 2) 30 (ftV I g w))
abbrev ftP (I : IM) (t g : Nat) (w : Int32) : Prop := ∀ k, k < t → (itr (I 15 2) (I 258 k).toNatClampNeg (ftV I g w) 0 4 >>> (I 257 k &&& 31)) &&& 1 = I 259 k
theorem ftR_s (I : IM) (f : Int32) (V : SV) (s : Nat) : up2 (ftR I f V s) 261 (s + 1) (itr f (s + 1) V 0 4) = ftR I f V (s + 1) := by
  funext b k
  unfold up2 ftR
  by_cases h : b = 261
  · subst h
    by_cases h2 : k = s + 1
    · subst h2; simp
    · by_cases h3 : 1 ≤ k ∧ k ≤ s
      · rw [if_pos rfl, if_neg h2, if_pos ⟨rfl, h3⟩, if_pos ⟨rfl, h3.1, by omega⟩]
      · rw [if_pos rfl, if_neg h2, if_neg (fun q => h3 q.2), if_neg (fun q => h3 ⟨q.2.1, by omega⟩)]
  · rw [if_neg h, if_neg (fun q => h q.1), if_neg (fun q => h q.1)]
theorem ftR_0 (I : IM) (f : Int32) (V : SV) : ftR I f V 0 = I := by
  funext b k
  unfold ftR
  rw [if_neg (by omega)]
theorem ftR_ne {I : IM} {f : Int32} {V : SV} {s b : Nat} (h : b ≠ 261) : ftR I f V s b = I b := by
  funext k
  unfold ftR
  rw [if_neg (fun q => h q.1)]
theorem up2_putF {J : IM} {i b k : Nat} {W : SV} {v : Int32} (h : b < i ∨ i + 4 < b) : up2 (putS J i W) b k v = putS (up2 J b k v) i W := by
  refine (putS_eq (fun q j hj => ?_) (fun c j hc => ?_)).symm
  · have : ¬ i + q = b := by unfold inSt at hj; omega
    rw [up2_ne this, putS_in hj]
  · unfold up2
    by_cases e : c = b
    · subst e
      rw [if_pos rfl, if_pos rfl]
      by_cases e2 : j = k
      · rw [if_pos e2, if_pos e2]
      · rw [if_neg e2, if_neg e2, putS_far h]
    · rw [if_neg e, if_neg e, putS_out hc]
abbrev tyP (V : SV) (p q : Int32) : Prop := ¬ (hwF (V 3) (V 1) p &&& hwF (V 3) (V 2) q) = 0 ∧ ¬ (hwF (V 3) (V 1) q &&& hwF (V 3) (V 2) p) = 0
def tr1 (V : SV) (i t : Nat) (a : Int32) : Int32 := if tyP V (nI i) (nI (i + 1 + t)) then a + 1 else a
def tr2 (V : SV) (n i : Nat) (a : Int32) : Int32 := foldN (tr1 V i) (n - 1 - i) a
abbrev rsP (I : IM) (x y : Nat) : Prop := ∀ k, k < 3 → ¬ I 264 (x * 3 + y) < I 264 (k * 3 + y) ∧ ¬ I 265 (x * 3 + y) < I 265 (x * 3 + k)
section
variable {E : EV} {d : Nat} {G : GD} {I : IM}
set_option maxRecDepth 100000 in
set_option maxHeartbeats 4000000 in
theorem c_fits (hG : GTs G) {t g : Nat} (ht : t ≤ 10) (hI : I 256 5 = nI t) (hs : ∀ k, k < t → 1 ≤ (I 258 k).toNatClampNeg ∧ vp_in (I 258 k) 31) (hg : g < 12) (w : Int32) : Run E (d + 3) mX10_fits [.ref 0, .int (nI g), .int w] (0, 0) G I (some (.int (bInt (ftP I t g w)))) G (ftI I g w) := by
  have hS := hG.st 266 rfl
  have g0 : gP G 263 (0 : Int32).toNatClampNeg = some 266 := hG.p 263 0 266 rfl rfl
  have h15 : ∀ (J : IM) W, putS J 266 W 15 = J 15 := fun J W => putS_far (by decide)
  have f15 : ∀ f V s, ftR I f V s 15 = I 15 := fun f V s => ftR_ne (by decide)
  have so : Run E (d + 2) mX4_allSo [.ref 256] (0, 0) G (ftI I g w) (some (.int (bInt (ftP I t g w)))) G (ftI I g w) := by
    have r : ∀ b, b < 261 → ftI I g w b = I b := fun b hb => by
      unfold ftI
      rw [putS_far (by omega), ftR_ne (by omega)]
    have := c_allSo (E := E) (d := d + 2) (I := ftI I g w) hG ht (by rw [r 256 (by decide)]; exact hI) (fun k hk => by rw [r 258 (by decide)]; exact (hs k hk).2)
    have e : soP (ftI I g w) t = ftP I t g w := by
      unfold soP ftP
      rw [r 258 (by decide), r 257 (by decide), r 259 (by decide)]
      refine forall_congr fun k => forall_congr fun hk => ?_
      have h1 := hs k hk
      have h2 := h1.2.lt
      have : ftI I g w 261 (I 258 k).toNatClampNeg = itr (I 15 2) (I 258 k).toNatClampNeg (ftV I g w) 0 4 := by
        unfold ftI
        rw [putS_far (by decide)]
        unfold ftR
        rw [if_pos ⟨rfl, h1.1, by omega⟩]
      rw [this]
    simp only [e] at this
    exact this
  have key : ∀ s, s ≤ 30 → Ex E (d + 3) mX10_fits (fun a b c => a = some (.int (bInt (ftP I t g w))) ∧ b = G ∧ c = ftI I g w) 28 [some (.ref 0), some (.int (nI g)), some (.int w), some (.ref 266), some (.int (nI (s + 1)))] [] (0, 0) G (putS (ftR I (I 15 2) (ftV I g w) s) 266 (itr (I 15 2) s (ftV I g w))) := by
    refine dn ?_ ?_
    · refine Ex.run TX10_fits [28] 60 ?_
      simp only [↓tX10_fits, ↓opPush, ↓opILoad, ↓opLLoad, ↓opALoad, ↓opIStore, ↓opAStore, ↓opLStore, ↓opIInc, ↓opI1, ↓opII, ↓opID, ↓opLL, ↓opLD, ↓opLI, ↓opI2L, ↓opL2I, ↓opLcmp, ↓opDup, ↓opDupX1, ↓opDup2, ↓opPop, ↓opIf1, ↓opIf2, ↓opGoto, ↓opIRet, ↓opZRet, ↓opLRet, ↓opVRet, ↓opGetI, ↓opGetL, ↓opGetR, ↓opPutI, ↓opPutZ, ↓opPutL, ↓opPutR, ↓opIALoad, ↓opBALoad, ↓opZALoad, ↓opLALoad, ↓opAALoad, ↓opIAStore, ↓opZAStore, ↓opLAStore, ↓opALen, ↓opGetS, ↓opGetC, ↓opStrV, ↓opStrC, ↓opCallV, ↓opCallS, ↓opSw, ↓opCopy, ↓opCallT, ↓opBRet, ↓opObjI, ↓opNew, ↓opNewA, ↓opANew, ↓opAAStore, ↓opMNew, ↓opCallI, ↓wp_s, ↓wp_0, ↓popI_c, ↓popL_c, ↓popR_c, ↓pop1_i, ↓pop1_r, ↓ldI_0, ↓ldI_s, ↓ldL_0, ↓ldL_s, ↓ldR_0, ↓ldR_s, ↓stL_0, ↓stL_s, ↓tk_0, ↓tk_s, ↓Kc_s, ↓Kc_n, isS_0, isS_s, asP_c, gi_0, gi_s, noL_0, noL_s, isW_n, isW_i, isW_r, rcv_c, rcvT_c, swK_0, swK_s, catS, or_false, false_or, not_false_eq_true, not_true_eq_false, true_implies, false_implies, and_true, true_and, ↓reduceIte, Nat.reduceAdd, Nat.reduceLT, Nat.reduceLeDiff, Nat.reduceEqDiff, Nat.reduceSub, forall_const, eq_self, and_self, or_true, true_or, show (30 : Int32) < nI (30 + 1) by decide, hG.o 0 10 rfl rfl, ↓asP_h (hG.p 0 10 256 rfl rfl), hG.o 256 4 rfl rfl]
      refine ⟨_, _, _, _, rfl, so, ?_⟩
      simp only [↓tX10_fits, ↓opPush, ↓opILoad, ↓opLLoad, ↓opALoad, ↓opIStore, ↓opAStore, ↓opLStore, ↓opIInc, ↓opI1, ↓opII, ↓opID, ↓opLL, ↓opLD, ↓opLI, ↓opI2L, ↓opL2I, ↓opLcmp, ↓opDup, ↓opDupX1, ↓opDup2, ↓opPop, ↓opIf1, ↓opIf2, ↓opGoto, ↓opIRet, ↓opZRet, ↓opLRet, ↓opVRet, ↓opGetI, ↓opGetL, ↓opGetR, ↓opPutI, ↓opPutZ, ↓opPutL, ↓opPutR, ↓opIALoad, ↓opBALoad, ↓opZALoad, ↓opLALoad, ↓opAALoad, ↓opIAStore, ↓opZAStore, ↓opLAStore, ↓opALen, ↓opGetS, ↓opGetC, ↓opStrV, ↓opStrC, ↓opCallV, ↓opCallS, ↓opSw, ↓opCopy, ↓opCallT, ↓opBRet, ↓opObjI, ↓opNew, ↓opNewA, ↓opANew, ↓opAAStore, ↓opMNew, ↓opCallI, ↓wp_s, ↓wp_0, ↓popI_c, ↓popL_c, ↓popR_c, ↓pop1_i, ↓pop1_r, ↓ldI_0, ↓ldI_s, ↓ldL_0, ↓ldL_s, ↓ldR_0, ↓ldR_s, ↓stL_0, ↓stL_s, ↓tk_0, ↓tk_s, ↓Kc_s, ↓Kc_n, isS_0, isS_s, asP_c, gi_0, gi_s, noL_0, noL_s, isW_n, isW_i, isW_r, rcv_c, rcvT_c, swK_0, swK_s, catS, or_false, false_or, not_false_eq_true, not_true_eq_false, true_implies, false_implies, and_true, true_and, ↓reduceIte, Nat.reduceAdd, Nat.reduceLT, Nat.reduceLeDiff, Nat.reduceEqDiff, Nat.reduceSub, forall_const, eq_self, and_self, or_true, true_or]
      exact bInt_01 _
    · intro s hs ih
      have w4 : ∀ J W, putS J 266 W 266 4 = W 0 4 := fun J W => putS_0 (Or.inl rfl)
      refine Ex.run TX10_fits [28] 60 ?_
      simp only [↓tX10_fits, ↓opPush, ↓opILoad, ↓opLLoad, ↓opALoad, ↓opIStore, ↓opAStore, ↓opLStore, ↓opIInc, ↓opI1, ↓opII, ↓opID, ↓opLL, ↓opLD, ↓opLI, ↓opI2L, ↓opL2I, ↓opLcmp, ↓opDup, ↓opDupX1, ↓opDup2, ↓opPop, ↓opIf1, ↓opIf2, ↓opGoto, ↓opIRet, ↓opZRet, ↓opLRet, ↓opVRet, ↓opGetI, ↓opGetL, ↓opGetR, ↓opPutI, ↓opPutZ, ↓opPutL, ↓opPutR, ↓opIALoad, ↓opBALoad, ↓opZALoad, ↓opLALoad, ↓opAALoad, ↓opIAStore, ↓opZAStore, ↓opLAStore, ↓opALen, ↓opGetS, ↓opGetC, ↓opStrV, ↓opStrC, ↓opCallV, ↓opCallS, ↓opSw, ↓opCopy, ↓opCallT, ↓opBRet, ↓opObjI, ↓opNew, ↓opNewA, ↓opANew, ↓opAAStore, ↓opMNew, ↓opCallI, ↓wp_s, ↓wp_0, ↓popI_c, ↓popL_c, ↓popR_c, ↓pop1_i, ↓pop1_r, ↓ldI_0, ↓ldI_s, ↓ldL_0, ↓ldL_s, ↓ldR_0, ↓ldR_s, ↓stL_0, ↓stL_s, ↓tk_0, ↓tk_s, ↓Kc_s, ↓Kc_n, isS_0, isS_s, asP_c, gi_0, gi_s, noL_0, noL_s, isW_n, isW_i, isW_r, rcv_c, rcvT_c, swK_0, swK_s, catS, or_false, false_or, not_false_eq_true, not_true_eq_false, true_implies, false_implies, and_true, true_and, ↓reduceIte, Nat.reduceAdd, Nat.reduceLT, Nat.reduceLeDiff, Nat.reduceEqDiff, Nat.reduceSub, forall_const, eq_self, and_self, or_true, true_or, eq_false (show ¬ (30 : Int32) < nI (s + 1) from nI_nlt (a := 30) (by omega) (by decide)), hG.o 0 10 rfl rfl, ↓asP_h (hG.p 0 2 15 rfl rfl), hG.o 15 8 rfl rfl, ↓asP_h (hG.p 15 3 16 rfl rfl), hG.o 16 100 rfl rfl, (hG.o 16 100 rfl rfl).A, hG.l 16 5 rfl rfl, ↓asP_h (hG.p 15 4 17 rfl rfl), hG.o 17 100 rfl rfl, (hG.o 17 100 rfl rfl).A, hG.l 17 5 rfl rfl, ↓asP_h (hG.p 15 5 18 rfl rfl), hS.1, h15, f15]
      refine ⟨_, _, _, _, rfl, sun_put hS _ _, ?_⟩
      simp only [↓tX10_fits, ↓opPush, ↓opILoad, ↓opLLoad, ↓opALoad, ↓opIStore, ↓opAStore, ↓opLStore, ↓opIInc, ↓opI1, ↓opII, ↓opID, ↓opLL, ↓opLD, ↓opLI, ↓opI2L, ↓opL2I, ↓opLcmp, ↓opDup, ↓opDupX1, ↓opDup2, ↓opPop, ↓opIf1, ↓opIf2, ↓opGoto, ↓opIRet, ↓opZRet, ↓opLRet, ↓opVRet, ↓opGetI, ↓opGetL, ↓opGetR, ↓opPutI, ↓opPutZ, ↓opPutL, ↓opPutR, ↓opIALoad, ↓opBALoad, ↓opZALoad, ↓opLALoad, ↓opAALoad, ↓opIAStore, ↓opZAStore, ↓opLAStore, ↓opALen, ↓opGetS, ↓opGetC, ↓opStrV, ↓opStrC, ↓opCallV, ↓opCallS, ↓opSw, ↓opCopy, ↓opCallT, ↓opBRet, ↓opObjI, ↓opNew, ↓opNewA, ↓opANew, ↓opAAStore, ↓opMNew, ↓opCallI, ↓wp_s, ↓wp_0, ↓popI_c, ↓popL_c, ↓popR_c, ↓pop1_i, ↓pop1_r, ↓ldI_0, ↓ldI_s, ↓ldL_0, ↓ldL_s, ↓ldR_0, ↓ldR_s, ↓stL_0, ↓stL_s, ↓tk_0, ↓tk_s, ↓Kc_s, ↓Kc_n, isS_0, isS_s, asP_c, gi_0, gi_s, noL_0, noL_s, isW_n, isW_i, isW_r, rcv_c, rcvT_c, swK_0, swK_s, catS, or_false, false_or, not_false_eq_true, not_true_eq_false, true_implies, false_implies, and_true, true_and, ↓reduceIte, Nat.reduceAdd, Nat.reduceLT, Nat.reduceLeDiff, Nat.reduceEqDiff, Nat.reduceSub, forall_const, eq_self, and_self, or_true, true_or, hG.o 0 10 rfl rfl, ↓asP_h (hG.p 0 10 256 rfl rfl), hG.o 256 4 rfl rfl, ↓asP_h (hG.p 256 4 261 rfl rfl), hG.o 261 100 rfl rfl, (hG.o 261 100 rfl rfl).A, hG.l 261 31 rfl rfl, hS.1, w4, vp_in_nI (show s + 1 < 31 by omega) (by decide), nI_clamp (n := s + 1) (by omega)]
      refine ih.to (by simp [nI_succ]) ?_
      rw [up2_putF (by decide)]
      exact congrArg (fun z => putS z 266 _) (ftR_s I (I 15 2) (ftV I g w) s).symm
  have st : up2 (putS I 266 (getS I 18)) 269 g w = putS (ftR I (I 15 2) (ftV I g w) 0) 266 (itr (I 15 2) 0 (ftV I g w)) := by
    rw [ftR_0]
    exact up2_putS (i := 266) (r := 3) (inSt_r (by decide) (by decide) hg)
  refine Ct.run okX10_fits TX10_fits [28] 60 rfl rfl ?_
  simp only [↓tX10_fits, ↓opPush, ↓opILoad, ↓opLLoad, ↓opALoad, ↓opIStore, ↓opAStore, ↓opLStore, ↓opIInc, ↓opI1, ↓opII, ↓opID, ↓opLL, ↓opLD, ↓opLI, ↓opI2L, ↓opL2I, ↓opLcmp, ↓opDup, ↓opDupX1, ↓opDup2, ↓opPop, ↓opIf1, ↓opIf2, ↓opGoto, ↓opIRet, ↓opZRet, ↓opLRet, ↓opVRet, ↓opGetI, ↓opGetL, ↓opGetR, ↓opPutI, ↓opPutZ, ↓opPutL, ↓opPutR, ↓opIALoad, ↓opBALoad, ↓opZALoad, ↓opLALoad, ↓opAALoad, ↓opIAStore, ↓opZAStore, ↓opLAStore, ↓opALen, ↓opGetS, ↓opGetC, ↓opStrV, ↓opStrC, ↓opCallV, ↓opCallS, ↓opSw, ↓opCopy, ↓opCallT, ↓opBRet, ↓opObjI, ↓opNew, ↓opNewA, ↓opANew, ↓opAAStore, ↓opMNew, ↓opCallI, ↓wp_s, ↓wp_0, ↓popI_c, ↓popL_c, ↓popR_c, ↓pop1_i, ↓pop1_r, ↓ldI_0, ↓ldI_s, ↓ldL_0, ↓ldL_s, ↓ldR_0, ↓ldR_s, ↓stL_0, ↓stL_s, ↓tk_0, ↓tk_s, ↓Kc_s, ↓Kc_n, isS_0, isS_s, asP_c, gi_0, gi_s, noL_0, noL_s, isW_n, isW_i, isW_r, rcv_c, rcvT_c, swK_0, swK_s, catS, or_false, false_or, not_false_eq_true, not_true_eq_false, true_implies, false_implies, and_true, true_and, ↓reduceIte, Nat.reduceAdd, Nat.reduceLT, Nat.reduceLeDiff, Nat.reduceEqDiff, Nat.reduceSub, forall_const, eq_self, and_self, or_true, true_or, lve_i, lve_r, lve_l, lve_0, List.replicate_succ, List.replicate_zero, mX, mX10_fits, hG.o 0 10 rfl rfl, ↓asP_h (hG.p 0 2 15 rfl rfl), ↓asP_h (hG.p 0 12 263 rfl rfl), hG.o 263 104 rfl rfl, hG.l 263 9 rfl rfl, hG.o 15 8 rfl rfl, ↓asP_h (hG.p 15 5 18 rfl rfl), vpL (i := 0) (n := 9) (by decide), ↓asP_h g0, hS.1]
  refine ⟨_, _, _, _, rfl, c_copyFrom hS (hG.st 18 rfl) (by decide), ?_⟩
  simp only [↓tX10_fits, ↓opPush, ↓opILoad, ↓opLLoad, ↓opALoad, ↓opIStore, ↓opAStore, ↓opLStore, ↓opIInc, ↓opI1, ↓opII, ↓opID, ↓opLL, ↓opLD, ↓opLI, ↓opI2L, ↓opL2I, ↓opLcmp, ↓opDup, ↓opDupX1, ↓opDup2, ↓opPop, ↓opIf1, ↓opIf2, ↓opGoto, ↓opIRet, ↓opZRet, ↓opLRet, ↓opVRet, ↓opGetI, ↓opGetL, ↓opGetR, ↓opPutI, ↓opPutZ, ↓opPutL, ↓opPutR, ↓opIALoad, ↓opBALoad, ↓opZALoad, ↓opLALoad, ↓opAALoad, ↓opIAStore, ↓opZAStore, ↓opLAStore, ↓opALen, ↓opGetS, ↓opGetC, ↓opStrV, ↓opStrC, ↓opCallV, ↓opCallS, ↓opSw, ↓opCopy, ↓opCallT, ↓opBRet, ↓opObjI, ↓opNew, ↓opNewA, ↓opANew, ↓opAAStore, ↓opMNew, ↓opCallI, ↓wp_s, ↓wp_0, ↓popI_c, ↓popL_c, ↓popR_c, ↓pop1_i, ↓pop1_r, ↓ldI_0, ↓ldI_s, ↓ldL_0, ↓ldL_s, ↓ldR_0, ↓ldR_s, ↓stL_0, ↓stL_s, ↓tk_0, ↓tk_s, ↓Kc_s, ↓Kc_n, isS_0, isS_s, asP_c, gi_0, gi_s, noL_0, noL_s, isW_n, isW_i, isW_r, rcv_c, rcvT_c, swK_0, swK_s, catS, or_false, false_or, not_false_eq_true, not_true_eq_false, true_implies, false_implies, and_true, true_and, ↓reduceIte, Nat.reduceAdd, Nat.reduceLT, Nat.reduceLeDiff, Nat.reduceEqDiff, Nat.reduceSub, forall_const, eq_self, and_self, or_true, true_or, ↓asP_h (hG.p 266 2 269 rfl rfl), hG.o 269 100 rfl rfl, (hG.o 269 100 rfl rfl).A, hG.l 269 12 rfl rfl, hS.1, vp_in_nI hg (by decide), nI_clamp (n := g) (by omega)]
  rw [st]
  exact key 0 (by decide)
set_option maxRecDepth 100000 in
set_option maxHeartbeats 4000000 in
theorem c_treaties (hG : GTs G) {n : Nat} (hn : n ≤ 5) (hI : I 15 0 = nI n) : Run E (d + 3) mX10_treaties [.ref 0] (0, 0) G I (some (.int (foldN (tr2 (getS I 36) n) n 0))) G I := by
  have hS := hG.st 36 rfl
  have key : ∀ i, i ≤ n → Ex E (d + 3) mX10_treaties (fun a b c => a = some (.int (foldN (tr2 (getS I 36) n) n 0)) ∧ b = G ∧ c = I) 4 [some (.ref 0), some (.int (foldN (tr2 (getS I 36) n) i 0)), some (.int (nI i)), none] [] (0, 0) G I := by
    refine dn ?_ ?_
    · refine Ex.run TX10_treaties [4] 60 ?_
      simp only [↓tX10_treaties, ↓opPush, ↓opILoad, ↓opLLoad, ↓opALoad, ↓opIStore, ↓opAStore, ↓opLStore, ↓opIInc, ↓opI1, ↓opII, ↓opID, ↓opLL, ↓opLD, ↓opLI, ↓opI2L, ↓opL2I, ↓opLcmp, ↓opDup, ↓opDupX1, ↓opDup2, ↓opPop, ↓opIf1, ↓opIf2, ↓opGoto, ↓opIRet, ↓opZRet, ↓opLRet, ↓opVRet, ↓opGetI, ↓opGetL, ↓opGetR, ↓opPutI, ↓opPutZ, ↓opPutL, ↓opPutR, ↓opIALoad, ↓opBALoad, ↓opZALoad, ↓opLALoad, ↓opAALoad, ↓opIAStore, ↓opZAStore, ↓opLAStore, ↓opALen, ↓opGetS, ↓opGetC, ↓opStrV, ↓opStrC, ↓opCallV, ↓opCallS, ↓opSw, ↓opCopy, ↓opCallT, ↓opBRet, ↓opObjI, ↓opNew, ↓opNewA, ↓opANew, ↓opAAStore, ↓opMNew, ↓opCallI, ↓wp_s, ↓wp_0, ↓popI_c, ↓popL_c, ↓popR_c, ↓pop1_i, ↓pop1_r, ↓ldI_0, ↓ldI_s, ↓ldL_0, ↓ldL_s, ↓ldR_0, ↓ldR_s, ↓stL_0, ↓stL_s, ↓tk_0, ↓tk_s, ↓Kc_s, ↓Kc_n, isS_0, isS_s, asP_c, gi_0, gi_s, noL_0, noL_s, isW_n, isW_i, isW_r, rcv_c, rcvT_c, swK_0, swK_s, catS, or_false, false_or, not_false_eq_true, not_true_eq_false, true_implies, false_implies, and_true, true_and, ↓reduceIte, Nat.reduceAdd, Nat.reduceLT, Nat.reduceLeDiff, Nat.reduceEqDiff, Nat.reduceSub, forall_const, eq_self, and_self, or_true, true_or, hG.o 0 10 rfl rfl, ↓asP_h (hG.p 0 2 15 rfl rfl), hG.o 15 8 rfl rfl, ↓asP_h (hG.p 15 3 16 rfl rfl), hG.o 16 100 rfl rfl, (hG.o 16 100 rfl rfl).A, hG.l 16 5 rfl rfl, ↓asP_h (hG.p 15 4 17 rfl rfl), hG.o 17 100 rfl rfl, (hG.o 17 100 rfl rfl).A, hG.l 17 5 rfl rfl, ↓asP_h (hG.p 15 5 18 rfl rfl), hI, Int32.le_refl]
    · intro i hi ih
      have inner : ∀ t, t ≤ n - 1 - i → Ex E (d + 3) mX10_treaties (fun a b c => a = some (.int (foldN (tr2 (getS I 36) n) n 0)) ∧ b = G ∧ c = I) 19 [some (.ref 0), some (.int (foldN (tr1 (getS I 36) i) t (foldN (tr2 (getS I 36) n) i 0))), some (.int (nI i)), some (.int (nI (i + 1 + t)))] [] (0, 0) G I := by
        refine dn ?_ ?_
        · rw [show i + 1 + (n - 1 - i) = n by omega]
          refine Ex.run TX10_treaties [4, 19] 60 ?_
          simp only [↓tX10_treaties, ↓opPush, ↓opILoad, ↓opLLoad, ↓opALoad, ↓opIStore, ↓opAStore, ↓opLStore, ↓opIInc, ↓opI1, ↓opII, ↓opID, ↓opLL, ↓opLD, ↓opLI, ↓opI2L, ↓opL2I, ↓opLcmp, ↓opDup, ↓opDupX1, ↓opDup2, ↓opPop, ↓opIf1, ↓opIf2, ↓opGoto, ↓opIRet, ↓opZRet, ↓opLRet, ↓opVRet, ↓opGetI, ↓opGetL, ↓opGetR, ↓opPutI, ↓opPutZ, ↓opPutL, ↓opPutR, ↓opIALoad, ↓opBALoad, ↓opZALoad, ↓opLALoad, ↓opAALoad, ↓opIAStore, ↓opZAStore, ↓opLAStore, ↓opALen, ↓opGetS, ↓opGetC, ↓opStrV, ↓opStrC, ↓opCallV, ↓opCallS, ↓opSw, ↓opCopy, ↓opCallT, ↓opBRet, ↓opObjI, ↓opNew, ↓opNewA, ↓opANew, ↓opAAStore, ↓opMNew, ↓opCallI, ↓wp_s, ↓wp_0, ↓popI_c, ↓popL_c, ↓popR_c, ↓pop1_i, ↓pop1_r, ↓ldI_0, ↓ldI_s, ↓ldL_0, ↓ldL_s, ↓ldR_0, ↓ldR_s, ↓stL_0, ↓stL_s, ↓tk_0, ↓tk_s, ↓Kc_s, ↓Kc_n, isS_0, isS_s, asP_c, gi_0, gi_s, noL_0, noL_s, isW_n, isW_i, isW_r, rcv_c, rcvT_c, swK_0, swK_s, catS, or_false, false_or, not_false_eq_true, not_true_eq_false, true_implies, false_implies, and_true, true_and, ↓reduceIte, Nat.reduceAdd, Nat.reduceLT, Nat.reduceLeDiff, Nat.reduceEqDiff, Nat.reduceSub, forall_const, eq_self, and_self, or_true, true_or, hG.o 0 10 rfl rfl, ↓asP_h (hG.p 0 2 15 rfl rfl), hG.o 15 8 rfl rfl, ↓asP_h (hG.p 15 3 16 rfl rfl), hG.o 16 100 rfl rfl, (hG.o 16 100 rfl rfl).A, hG.l 16 5 rfl rfl, ↓asP_h (hG.p 15 4 17 rfl rfl), hG.o 17 100 rfl rfl, (hG.o 17 100 rfl rfl).A, hG.l 17 5 rfl rfl, ↓asP_h (hG.p 15 5 18 rfl rfl), hI, Int32.le_refl]
          rw [foldN_s, nI_succ] at ih
          exact ih.weak ⟨rfl, rfl, rfl, trivial⟩
        · intro t ht ih2
          rw [foldN_s, show i + 1 + (t + 1) = (i + 1 + t) + 1 by omega, nI_succ] at ih2
          refine Ex.run TX10_treaties [4, 19] 60 ?_
          simp only [↓tX10_treaties, ↓opPush, ↓opILoad, ↓opLLoad, ↓opALoad, ↓opIStore, ↓opAStore, ↓opLStore, ↓opIInc, ↓opI1, ↓opII, ↓opID, ↓opLL, ↓opLD, ↓opLI, ↓opI2L, ↓opL2I, ↓opLcmp, ↓opDup, ↓opDupX1, ↓opDup2, ↓opPop, ↓opIf1, ↓opIf2, ↓opGoto, ↓opIRet, ↓opZRet, ↓opLRet, ↓opVRet, ↓opGetI, ↓opGetL, ↓opGetR, ↓opPutI, ↓opPutZ, ↓opPutL, ↓opPutR, ↓opIALoad, ↓opBALoad, ↓opZALoad, ↓opLALoad, ↓opAALoad, ↓opIAStore, ↓opZAStore, ↓opLAStore, ↓opALen, ↓opGetS, ↓opGetC, ↓opStrV, ↓opStrC, ↓opCallV, ↓opCallS, ↓opSw, ↓opCopy, ↓opCallT, ↓opBRet, ↓opObjI, ↓opNew, ↓opNewA, ↓opANew, ↓opAAStore, ↓opMNew, ↓opCallI, ↓wp_s, ↓wp_0, ↓popI_c, ↓popL_c, ↓popR_c, ↓pop1_i, ↓pop1_r, ↓ldI_0, ↓ldI_s, ↓ldL_0, ↓ldL_s, ↓ldR_0, ↓ldR_s, ↓stL_0, ↓stL_s, ↓tk_0, ↓tk_s, ↓Kc_s, ↓Kc_n, isS_0, isS_s, asP_c, gi_0, gi_s, noL_0, noL_s, isW_n, isW_i, isW_r, rcv_c, rcvT_c, swK_0, swK_s, catS, or_false, false_or, not_false_eq_true, not_true_eq_false, true_implies, false_implies, and_true, true_and, ↓reduceIte, Nat.reduceAdd, Nat.reduceLT, Nat.reduceLeDiff, Nat.reduceEqDiff, Nat.reduceSub, forall_const, eq_self, and_self, or_true, true_or, hG.o 0 10 rfl rfl, ↓asP_h (hG.p 0 2 15 rfl rfl), ↓asP_h (hG.p 0 5 36 rfl rfl), hG.o 15 8 rfl rfl, ↓asP_h (hG.p 15 3 16 rfl rfl), hG.o 16 100 rfl rfl, (hG.o 16 100 rfl rfl).A, hG.l 16 5 rfl rfl, ↓asP_h (hG.p 15 4 17 rfl rfl), hG.o 17 100 rfl rfl, (hG.o 17 100 rfl rfl).A, hG.l 17 5 rfl rfl, ↓asP_h (hG.p 15 5 18 rfl rfl), hI, eq_false (nI_ge (a := i + 1 + t) (b := n) (by omega) (by omega)), hS.1]
          refine ⟨_, _, _, _, rfl, c_hasTreaty hS _ _, ?_⟩
          simp only [↓tX10_treaties, ↓opPush, ↓opILoad, ↓opLLoad, ↓opALoad, ↓opIStore, ↓opAStore, ↓opLStore, ↓opIInc, ↓opI1, ↓opII, ↓opID, ↓opLL, ↓opLD, ↓opLI, ↓opI2L, ↓opL2I, ↓opLcmp, ↓opDup, ↓opDupX1, ↓opDup2, ↓opPop, ↓opIf1, ↓opIf2, ↓opGoto, ↓opIRet, ↓opZRet, ↓opLRet, ↓opVRet, ↓opGetI, ↓opGetL, ↓opGetR, ↓opPutI, ↓opPutZ, ↓opPutL, ↓opPutR, ↓opIALoad, ↓opBALoad, ↓opZALoad, ↓opLALoad, ↓opAALoad, ↓opIAStore, ↓opZAStore, ↓opLAStore, ↓opALen, ↓opGetS, ↓opGetC, ↓opStrV, ↓opStrC, ↓opCallV, ↓opCallS, ↓opSw, ↓opCopy, ↓opCallT, ↓opBRet, ↓opObjI, ↓opNew, ↓opNewA, ↓opANew, ↓opAAStore, ↓opMNew, ↓opCallI, ↓wp_s, ↓wp_0, ↓popI_c, ↓popL_c, ↓popR_c, ↓pop1_i, ↓pop1_r, ↓ldI_0, ↓ldI_s, ↓ldL_0, ↓ldL_s, ↓ldR_0, ↓ldR_s, ↓stL_0, ↓stL_s, ↓tk_0, ↓tk_s, ↓Kc_s, ↓Kc_n, isS_0, isS_s, asP_c, gi_0, gi_s, noL_0, noL_s, isW_n, isW_i, isW_r, rcv_c, rcvT_c, swK_0, swK_s, catS, or_false, false_or, not_false_eq_true, not_true_eq_false, true_implies, false_implies, and_true, true_and, ↓reduceIte, Nat.reduceAdd, Nat.reduceLT, Nat.reduceLeDiff, Nat.reduceEqDiff, Nat.reduceSub, forall_const, eq_self, and_self, or_true, true_or, bInt_0]
          refine ⟨fun c => ?_, fun c => ?_⟩
          · rw [show tr1 (getS I 36) i t (foldN (tr1 (getS I 36) i) t (foldN (tr2 (getS I 36) n) i 0)) = foldN (tr1 (getS I 36) i) t (foldN (tr2 (getS I 36) n) i 0) from if_neg c] at ih2
            exact ih2
          · rw [show tr1 (getS I 36) i t (foldN (tr1 (getS I 36) i) t (foldN (tr2 (getS I 36) n) i 0)) = foldN (tr1 (getS I 36) i) t (foldN (tr2 (getS I 36) n) i 0) + 1 from if_pos (Decidable.not_not.mp c)] at ih2
            exact ih2
      refine Ex.run TX10_treaties [4, 19] 60 ?_
      simp only [↓tX10_treaties, ↓opPush, ↓opILoad, ↓opLLoad, ↓opALoad, ↓opIStore, ↓opAStore, ↓opLStore, ↓opIInc, ↓opI1, ↓opII, ↓opID, ↓opLL, ↓opLD, ↓opLI, ↓opI2L, ↓opL2I, ↓opLcmp, ↓opDup, ↓opDupX1, ↓opDup2, ↓opPop, ↓opIf1, ↓opIf2, ↓opGoto, ↓opIRet, ↓opZRet, ↓opLRet, ↓opVRet, ↓opGetI, ↓opGetL, ↓opGetR, ↓opPutI, ↓opPutZ, ↓opPutL, ↓opPutR, ↓opIALoad, ↓opBALoad, ↓opZALoad, ↓opLALoad, ↓opAALoad, ↓opIAStore, ↓opZAStore, ↓opLAStore, ↓opALen, ↓opGetS, ↓opGetC, ↓opStrV, ↓opStrC, ↓opCallV, ↓opCallS, ↓opSw, ↓opCopy, ↓opCallT, ↓opBRet, ↓opObjI, ↓opNew, ↓opNewA, ↓opANew, ↓opAAStore, ↓opMNew, ↓opCallI, ↓wp_s, ↓wp_0, ↓popI_c, ↓popL_c, ↓popR_c, ↓pop1_i, ↓pop1_r, ↓ldI_0, ↓ldI_s, ↓ldL_0, ↓ldL_s, ↓ldR_0, ↓ldR_s, ↓stL_0, ↓stL_s, ↓tk_0, ↓tk_s, ↓Kc_s, ↓Kc_n, isS_0, isS_s, asP_c, gi_0, gi_s, noL_0, noL_s, isW_n, isW_i, isW_r, rcv_c, rcvT_c, swK_0, swK_s, catS, or_false, false_or, not_false_eq_true, not_true_eq_false, true_implies, false_implies, and_true, true_and, ↓reduceIte, Nat.reduceAdd, Nat.reduceLT, Nat.reduceLeDiff, Nat.reduceEqDiff, Nat.reduceSub, forall_const, eq_self, and_self, or_true, true_or, hG.o 0 10 rfl rfl, ↓asP_h (hG.p 0 2 15 rfl rfl), hG.o 15 8 rfl rfl, ↓asP_h (hG.p 15 3 16 rfl rfl), hG.o 16 100 rfl rfl, (hG.o 16 100 rfl rfl).A, hG.l 16 5 rfl rfl, ↓asP_h (hG.p 15 4 17 rfl rfl), hG.o 17 100 rfl rfl, (hG.o 17 100 rfl rfl).A, hG.l 17 5 rfl rfl, ↓asP_h (hG.p 15 5 18 rfl rfl), hI, eq_false (nI_ge hi (by omega)), nI_1]
      exact inner 0 (Nat.zero_le _)
  refine Ct.run okX10_treaties TX10_treaties [4] 60 rfl rfl ?_
  simp only [↓tX10_treaties, ↓opPush, ↓opILoad, ↓opLLoad, ↓opALoad, ↓opIStore, ↓opAStore, ↓opLStore, ↓opIInc, ↓opI1, ↓opII, ↓opID, ↓opLL, ↓opLD, ↓opLI, ↓opI2L, ↓opL2I, ↓opLcmp, ↓opDup, ↓opDupX1, ↓opDup2, ↓opPop, ↓opIf1, ↓opIf2, ↓opGoto, ↓opIRet, ↓opZRet, ↓opLRet, ↓opVRet, ↓opGetI, ↓opGetL, ↓opGetR, ↓opPutI, ↓opPutZ, ↓opPutL, ↓opPutR, ↓opIALoad, ↓opBALoad, ↓opZALoad, ↓opLALoad, ↓opAALoad, ↓opIAStore, ↓opZAStore, ↓opLAStore, ↓opALen, ↓opGetS, ↓opGetC, ↓opStrV, ↓opStrC, ↓opCallV, ↓opCallS, ↓opSw, ↓opCopy, ↓opCallT, ↓opBRet, ↓opObjI, ↓opNew, ↓opNewA, ↓opANew, ↓opAAStore, ↓opMNew, ↓opCallI, ↓wp_s, ↓wp_0, ↓popI_c, ↓popL_c, ↓popR_c, ↓pop1_i, ↓pop1_r, ↓ldI_0, ↓ldI_s, ↓ldL_0, ↓ldL_s, ↓ldR_0, ↓ldR_s, ↓stL_0, ↓stL_s, ↓tk_0, ↓tk_s, ↓Kc_s, ↓Kc_n, isS_0, isS_s, asP_c, gi_0, gi_s, noL_0, noL_s, isW_n, isW_i, isW_r, rcv_c, rcvT_c, swK_0, swK_s, catS, or_false, false_or, not_false_eq_true, not_true_eq_false, true_implies, false_implies, and_true, true_and, ↓reduceIte, Nat.reduceAdd, Nat.reduceLT, Nat.reduceLeDiff, Nat.reduceEqDiff, Nat.reduceSub, forall_const, eq_self, and_self, or_true, true_or, lve_i, lve_r, lve_l, lve_0, List.replicate_succ, List.replicate_zero, mX, mX10_treaties]
  exact key 0 (Nat.zero_le _)
set_option maxRecDepth 100000 in
set_option maxHeartbeats 4000000 in
theorem c_isRest (hG : GTs G) {x y : Nat} (hx : x < 3) (hy : y < 3) : Run E d mX10_isRest [.ref 0, .int (nI x), .int (nI y)] (0, 0) G I (some (.int (bInt (rsP I x y)))) G I := by
  have m3 : ∀ a b, nI a * 3 + nI b = nI (a * 3 + b) := fun a b => by
    rw [show (3 : Int32) = nI 3 from rfl, pk_mul, nI_add]
  have key : ∀ k, k ≤ 3 → (∀ j, j < k → ¬ I 264 (x * 3 + y) < I 264 (j * 3 + y) ∧ ¬ I 265 (x * 3 + y) < I 265 (x * 3 + j)) → Ex E d mX10_isRest (fun a b c => a = some (.int (bInt (rsP I x y))) ∧ b = G ∧ c = I) 9 [some (.ref 0), some (.int (nI x)), some (.int (nI y)), some (.int (nI (x * 3 + y))), some (.int (nI k))] [] (0, 0) G I := by
    refine dn ?_ ?_
    · intro hall
      refine Ex.run TX10_isRest [9] 60 ?_
      simp only [↓tX10_isRest, ↓opPush, ↓opILoad, ↓opLLoad, ↓opALoad, ↓opIStore, ↓opAStore, ↓opLStore, ↓opIInc, ↓opI1, ↓opII, ↓opID, ↓opLL, ↓opLD, ↓opLI, ↓opI2L, ↓opL2I, ↓opLcmp, ↓opDup, ↓opDupX1, ↓opDup2, ↓opPop, ↓opIf1, ↓opIf2, ↓opGoto, ↓opIRet, ↓opZRet, ↓opLRet, ↓opVRet, ↓opGetI, ↓opGetL, ↓opGetR, ↓opPutI, ↓opPutZ, ↓opPutL, ↓opPutR, ↓opIALoad, ↓opBALoad, ↓opZALoad, ↓opLALoad, ↓opAALoad, ↓opIAStore, ↓opZAStore, ↓opLAStore, ↓opALen, ↓opGetS, ↓opGetC, ↓opStrV, ↓opStrC, ↓opCallV, ↓opCallS, ↓opSw, ↓opCopy, ↓opCallT, ↓opBRet, ↓opObjI, ↓opNew, ↓opNewA, ↓opANew, ↓opAAStore, ↓opMNew, ↓opCallI, ↓wp_s, ↓wp_0, ↓popI_c, ↓popL_c, ↓popR_c, ↓pop1_i, ↓pop1_r, ↓ldI_0, ↓ldI_s, ↓ldL_0, ↓ldL_s, ↓ldR_0, ↓ldR_s, ↓stL_0, ↓stL_s, ↓tk_0, ↓tk_s, ↓Kc_s, ↓Kc_n, isS_0, isS_s, asP_c, gi_0, gi_s, noL_0, noL_s, isW_n, isW_i, isW_r, rcv_c, rcvT_c, swK_0, swK_s, catS, or_false, false_or, not_false_eq_true, not_true_eq_false, true_implies, false_implies, and_true, true_and, ↓reduceIte, Nat.reduceAdd, Nat.reduceLT, Nat.reduceLeDiff, Nat.reduceEqDiff, Nat.reduceSub, forall_const, eq_self, and_self, or_true, true_or, lpT (N := 3) (n := 3) rfl]
      rw [bInt_t hall]
    · intro k hk ih hall
      refine Ex.run TX10_isRest [9] 60 ?_
      simp only [↓tX10_isRest, ↓opPush, ↓opILoad, ↓opLLoad, ↓opALoad, ↓opIStore, ↓opAStore, ↓opLStore, ↓opIInc, ↓opI1, ↓opII, ↓opID, ↓opLL, ↓opLD, ↓opLI, ↓opI2L, ↓opL2I, ↓opLcmp, ↓opDup, ↓opDupX1, ↓opDup2, ↓opPop, ↓opIf1, ↓opIf2, ↓opGoto, ↓opIRet, ↓opZRet, ↓opLRet, ↓opVRet, ↓opGetI, ↓opGetL, ↓opGetR, ↓opPutI, ↓opPutZ, ↓opPutL, ↓opPutR, ↓opIALoad, ↓opBALoad, ↓opZALoad, ↓opLALoad, ↓opAALoad, ↓opIAStore, ↓opZAStore, ↓opLAStore, ↓opALen, ↓opGetS, ↓opGetC, ↓opStrV, ↓opStrC, ↓opCallV, ↓opCallS, ↓opSw, ↓opCopy, ↓opCallT, ↓opBRet, ↓opObjI, ↓opNew, ↓opNewA, ↓opANew, ↓opAAStore, ↓opMNew, ↓opCallI, ↓wp_s, ↓wp_0, ↓popI_c, ↓popL_c, ↓popR_c, ↓pop1_i, ↓pop1_r, ↓ldI_0, ↓ldI_s, ↓ldL_0, ↓ldL_s, ↓ldR_0, ↓ldR_s, ↓stL_0, ↓stL_s, ↓tk_0, ↓tk_s, ↓Kc_s, ↓Kc_n, isS_0, isS_s, asP_c, gi_0, gi_s, noL_0, noL_s, isW_n, isW_i, isW_r, rcv_c, rcvT_c, swK_0, swK_s, catS, or_false, false_or, not_false_eq_true, not_true_eq_false, true_implies, false_implies, and_true, true_and, ↓reduceIte, Nat.reduceAdd, Nat.reduceLT, Nat.reduceLeDiff, Nat.reduceEqDiff, Nat.reduceSub, forall_const, eq_self, and_self, or_true, true_or, lpF (N := 3) (n := 3) (k := k) rfl hk (by decide), hG.o 0 10 rfl rfl, ↓asP_h (hG.p 0 13 264 rfl rfl), hG.o 264 100 rfl rfl, (hG.o 264 100 rfl rfl).A, hG.l 264 9 rfl rfl, ↓asP_h (hG.p 0 14 265 rfl rfl), hG.o 265 100 rfl rfl, (hG.o 265 100 rfl rfl).A, hG.l 265 9 rfl rfl, m3, vp_in_nI (show x * 3 + y < 9 by omega) (by decide), vp_in_nI (show k * 3 + y < 9 by omega) (by decide), vp_in_nI (show x * 3 + k < 9 by omega) (by decide), nI_clamp (n := x * 3 + y) (by omega), nI_clamp (n := k * 3 + y) (by omega), nI_clamp (n := x * 3 + k) (by omega)]
      refine ⟨fun c => ?_, fun c => ⟨fun c2 => ?_, fun c2 => ?_⟩⟩
      · rw [bInt_f (fun q => (q k hk).1 c)]
      · have := ih (fun j hj => by
          by_cases e : j = k
          · subst e; exact ⟨c, fun q => by rw [fa_lt] at q; rw [fa_le] at c2; omega⟩
          · exact hall j (by omega))
        rw [nI_succ] at this
        exact this
      · rw [bInt_f (fun q => (q k hk).2 (fa_of_nle c2))]
  refine Ct.run okX10_isRest TX10_isRest [9] 60 rfl rfl ?_
  simp only [↓tX10_isRest, ↓opPush, ↓opILoad, ↓opLLoad, ↓opALoad, ↓opIStore, ↓opAStore, ↓opLStore, ↓opIInc, ↓opI1, ↓opII, ↓opID, ↓opLL, ↓opLD, ↓opLI, ↓opI2L, ↓opL2I, ↓opLcmp, ↓opDup, ↓opDupX1, ↓opDup2, ↓opPop, ↓opIf1, ↓opIf2, ↓opGoto, ↓opIRet, ↓opZRet, ↓opLRet, ↓opVRet, ↓opGetI, ↓opGetL, ↓opGetR, ↓opPutI, ↓opPutZ, ↓opPutL, ↓opPutR, ↓opIALoad, ↓opBALoad, ↓opZALoad, ↓opLALoad, ↓opAALoad, ↓opIAStore, ↓opZAStore, ↓opLAStore, ↓opALen, ↓opGetS, ↓opGetC, ↓opStrV, ↓opStrC, ↓opCallV, ↓opCallS, ↓opSw, ↓opCopy, ↓opCallT, ↓opBRet, ↓opObjI, ↓opNew, ↓opNewA, ↓opANew, ↓opAAStore, ↓opMNew, ↓opCallI, ↓wp_s, ↓wp_0, ↓popI_c, ↓popL_c, ↓popR_c, ↓pop1_i, ↓pop1_r, ↓ldI_0, ↓ldI_s, ↓ldL_0, ↓ldL_s, ↓ldR_0, ↓ldR_s, ↓stL_0, ↓stL_s, ↓tk_0, ↓tk_s, ↓Kc_s, ↓Kc_n, isS_0, isS_s, asP_c, gi_0, gi_s, noL_0, noL_s, isW_n, isW_i, isW_r, rcv_c, rcvT_c, swK_0, swK_s, catS, or_false, false_or, not_false_eq_true, not_true_eq_false, true_implies, false_implies, and_true, true_and, ↓reduceIte, Nat.reduceAdd, Nat.reduceLT, Nat.reduceLeDiff, Nat.reduceEqDiff, Nat.reduceSub, forall_const, eq_self, and_self, or_true, true_or, lve_i, lve_r, lve_l, lve_0, List.replicate_succ, List.replicate_zero, mX, mX10_isRest, m3]
  exact key 0 (by decide) (fun j hj => absurd hj (by omega))
end
