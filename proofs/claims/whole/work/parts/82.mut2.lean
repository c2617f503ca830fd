/-! ===== the reference: a day with its log ===== -/
def slR (I : IM) (n : Nat) : IM := fun b k => if b = 328 ∧ 52 ≤ k ∧ k + 3 < n then I 328 (k + 3) else I b k
theorem slR_ne {I : IM} {n b : Nat} (h : b ≠ 328) : slR I n b = I b := by
  funext k
  unfold slR
  rw [if_neg (fun z => h z.1)]
theorem slR_0 (I : IM) : slR I 55 = I := by
  funext b k
  unfold slR
  rw [if_neg (fun z => by omega)]
theorem slR_s (I : IM) (m : Nat) : up2 (slR I (52 + m + 3)) 328 (52 + m) (I 328 (52 + m + 3)) = slR I (52 + m + 3 + 1) := by
  funext b k
  unfold up2 slR
  by_cases e : b = 328
  · rw [if_pos e]
    by_cases e2 : k = 52 + m
    · rw [if_pos e2, if_pos ⟨e, by omega, by omega⟩, e2]
    · rw [if_neg e2]
      by_cases c : 52 ≤ k ∧ k + 3 < 52 + m + 3
      · rw [if_pos ⟨e, c⟩, if_pos ⟨e, c.1, by omega⟩]
      · rw [if_neg (fun z => c z.2), if_neg (fun z => by omega)]
  · rw [if_neg e, if_neg (fun z => e z.1), if_neg (fun z => e z.1)]
theorem slR_hi (I : IM) (m : Nat) : slR I (52 + m + 3) 328 (52 + m + 3) = I 328 (52 + m + 3) := by
  unfold slR
  rw [if_neg (fun z => by omega)]
theorem slR_lo {I : IM} {n k : Nat} (h : k < 52) : slR I n 328 k = I 328 k := by
  unfold slR
  rw [if_neg (fun z => by omega)]
def wr3 (I : IM) (L : Nat) (a b c : Int32) : IM := up2 (up2 (up2 I 328 (52 + 3 * L) a) 328 (52 + 3 * L + 1) b) 328 (52 + 3 * L + 2) c
def pdR (I : IM) (L : Nat) (a b c : Int32) : IM := if L = 60 then up2 (wr3 (up2 (slR I 232) 328 51 (nI 59)) 59 a b c) 328 51 (nI 60) else up2 (wr3 I L a b c) 328 51 (nI (L + 1))
theorem up2_rpH {I : IM} {V : SV} {k : Nat} {v : Int32} (h : 51 ≤ k) : up2 (rp I V) 328 k v = rp (up2 I 328 k v) V := by
  funext b j
  by_cases e : b = 328
  · subst e
    by_cases hj : j < 51
    · rw [up2_nk (by omega), rp_nw hj, rp_nw hj]
    · rw [rp_hi (by omega)]
      by_cases e2 : j = k
      · subst e2
        rw [up2_sa, up2_sa]
      · rw [up2_nk e2, up2_nk e2, rp_hi (by omega)]
  · rw [up2_ne e, rp_ne e, rp_ne e, up2_ne e]
theorem slR_rp {I : IM} {V : SV} {n : Nat} : slR (rp I V) n = rp (slR I n) V := by
  funext b k
  unfold slR
  by_cases e : b = 328
  · subst e
    by_cases c : 52 ≤ k ∧ k + 3 < n
    · rw [if_pos ⟨rfl, c⟩, rp_hi (by omega), rp_hi (by omega), if_pos ⟨rfl, c⟩]
    · rw [if_neg (fun z => c z.2)]
      by_cases hk : k < 51
      · rw [rp_nw hk, rp_nw hk]
      · rw [rp_hi (by omega), rp_hi (by omega), if_neg (fun z => c z.2)]
  · rw [if_neg (fun z => e z.1), rp_ne e, rp_ne e]
    funext
    exact (if_neg (fun z => e z.1)).symm
theorem hm_rp {P : Nat} {I : IM} {W : SV} (hW : SVok P W) : hmF (rv (rp I W)) = bcI (hbF (W 3) (W 4) 0) := by
  have h : eqS (rv (rp I W)) W := rv_rp
  rw [hm_bc (hW.congr h.symm), hb_congr (fun k hk => eqS_row h (r := 3) (by decide) (by decide) hk) (fun k hk => eqS_row h (r := 4) (by decide) (by decide) hk)]
theorem e52 (L : Nat) : (52 : Int32) + 3 * nI L = nI (52 + 3 * L) := by
  rw [show (3 : Int32) = nI 3 from rfl, pk_mul, show (52 : Int32) = nI 52 from rfl, nI_add]
section
variable {E : EV} {d : Nat} {G : GD} {I : IM}
set_option maxRecDepth 100000 in
set_option maxHeartbeats 4000000 in
theorem r_passDay (hG : GTs G) {P L : Nat} (hP5 : P ≤ 5) (hP : I 311 25 = nI P) (hf : rng (I 325 0) 10) (hL : L ≤ 60) (hI : I 328 51 = nI L) {V : SV} (hV : SVok P V) : Run E (d + 6) mX11_passDay [.ref 311] (0, 0) G (rp I V) none G (rp (pdR I L (goF (I 325 0) V) (bcI (hbF (sunF (I 325 0) V 3) (sunF (I 325 0) V 4) 0)) (sunF (I 325 0) V 0 4)) (l2V (sunF (I 325 0) V))) := by
  have hl := r_liveOne (E := E) (d := d) (I := I) hG hP5 hP hf hV
  have hW := l2_ok (sun_ok hP5 hV hf)
  have e3 : l2V (sunF (I 325 0) V) 3 = sunF (I 325 0) V 3 := by rw [l2_num, num_r (by decide)]
  have e4 : l2V (sunF (I 325 0) V) 4 = sunF (I 325 0) V 4 := by rw [l2_num, num_r (by decide)]
  have e04 : l2V (sunF (I 325 0) V) 0 4 = sunF (I 325 0) V 0 4 := by rw [l2_num, num_4]
  rw [← e3, ← e4, ← e04]
  generalize goF (I 325 0) V = g at hl ⊢
  generalize l2V (sunF (I 325 0) V) = W at hl hW ⊢
  -- writing the row
  have wr : ∀ (J : IM) (M : Nat), M ≤ 59 → J 328 51 = nI M → Ex E (d + 6) mX11_passDay (fun a b z => a = none ∧ b = G ∧ z = rp (up2 (wr3 J M g (bcI (hbF (W 3) (W 4) 0)) (W 0 4)) 328 51 (nI (M + 1))) W) 63 [some (.ref 311), some (.int g), none] [] (0, 0) G (rp J W) := by
    intro J M hM hJ
    have e51 : rp J W 328 51 = nI M := by rw [rp_hi (by decide)]; exact hJ
    have hm := r_heavyMany (E := E) (d := d + 3) (I := rp (up2 J 328 (52 + 3 * M) g) W) hG
    rw [hm_rp hW] at hm
    have e48 : rp (up2 (up2 J 328 (52 + 3 * M) g) 328 (52 + 3 * M + 1) (bcI (hbF (W 3) (W 4) 0))) W 328 48 = W 0 4 := rp_0 (k := 4) (Or.inl rfl)
    have f51 : rp (wr3 J M g (bcI (hbF (W 3) (W 4) 0)) (W 0 4)) W 328 51 = nI M := by
      rw [rp_hi (by decide)]
      unfold wr3
      rw [up2_nk (by omega), up2_nk (by omega), up2_nk (by omega)]
      exact hJ
    refine Ex.run TX11_passDay [63] 90 ?_
    simp only [↓tX11_passDay, ↓opPush, ↓opILoad, ↓opLLoad, ↓opALoad, ↓opIStore, ↓opAStore, ↓opLStore, ↓opIInc, ↓opI1, ↓opII, ↓opID, ↓opLL, ↓opLD, ↓opLI, ↓opI2L, ↓opL2I, ↓opLcmp, ↓opDup, ↓opDupX1, ↓opDup2, ↓opPop, ↓opIf1, ↓opIf2, ↓opGoto, ↓opIRet, ↓opZRet, ↓opLRet, ↓opVRet, ↓opGetI, ↓opGetL, ↓opGetR, ↓opPutI, ↓opPutZ, ↓opPutL, ↓opPutR, ↓opIALoad, ↓opBALoad, ↓opZALoad, ↓opLALoad, ↓opAALoad, ↓opIAStore, ↓opZAStore, ↓opLAStore, ↓opALen, ↓opGetS, ↓opGetC, ↓opStrV, ↓opStrC, ↓opCallV, ↓opCallS, ↓opSw, ↓opCopy, ↓opCallT, ↓opBRet, ↓opObjI, ↓opNew, ↓opNewA, ↓opANew, ↓opAAStore, ↓opMNew, ↓opCallI, ↓wp_s, ↓wp_0, ↓popI_c, ↓popL_c, ↓popR_c, ↓pop1_i, ↓pop1_r, ↓ldI_0, ↓ldI_s, ↓ldL_0, ↓ldL_s, ↓ldR_0, ↓ldR_s, ↓stL_0, ↓stL_s, ↓tk_0, ↓tk_s, ↓Kc_s, ↓Kc_n, isS_0, isS_s, asP_c, gi_0, gi_s, noL_0, noL_s, isW_n, isW_i, isW_r, rcv_c, rcvT_c, swK_0, swK_s, catS, or_false, false_or, not_false_eq_true, not_true_eq_false, true_implies, false_implies, and_true, true_and, ↓reduceIte, Nat.reduceAdd, Nat.reduceLT, Nat.reduceLeDiff, Nat.reduceEqDiff, Nat.reduceSub, forall_const, eq_self, and_self, or_true, true_or, hG.fo311, ↓asP_h hG.fp311_27, hG.fo328, hG.fa328, hG.fl328, vpL (i := 51) (n := 232) (by decide), show (51 : Int32).toNatClampNeg = 51 by decide, e51, e52, v232 (show 52 + 3 * M < 232 by omega), nI_clamp (show 52 + 3 * M < 2 ^ 31 by omega), nI_1, v232 (show 52 + 3 * M + 1 < 232 by omega), nI_clamp (show 52 + 3 * M + 1 < 2 ^ 31 by omega)]
    rw [up2_rpH (by omega)]
    refine ⟨_, _, _, _, rfl, hm, ?_⟩
    simp only [↓tX11_passDay, ↓opPush, ↓opILoad, ↓opLLoad, ↓opALoad, ↓opIStore, ↓opAStore, ↓opLStore, ↓opIInc, ↓opI1, ↓opII, ↓opID, ↓opLL, ↓opLD, ↓opLI, ↓opI2L, ↓opL2I, ↓opLcmp, ↓opDup, ↓opDupX1, ↓opDup2, ↓opPop, ↓opIf1, ↓opIf2, ↓opGoto, ↓opIRet, ↓opZRet, ↓opLRet, ↓opVRet, ↓opGetI, ↓opGetL, ↓opGetR, ↓opPutI, ↓opPutZ, ↓opPutL, ↓opPutR, ↓opIALoad, ↓opBALoad, ↓opZALoad, ↓opLALoad, ↓opAALoad, ↓opIAStore, ↓opZAStore, ↓opLAStore, ↓opALen, ↓opGetS, ↓opGetC, ↓opStrV, ↓opStrC, ↓opCallV, ↓opCallS, ↓opSw, ↓opCopy, ↓opCallT, ↓opBRet, ↓opObjI, ↓opNew, ↓opNewA, ↓opANew, ↓opAAStore, ↓opMNew, ↓opCallI, ↓wp_s, ↓wp_0, ↓popI_c, ↓popL_c, ↓popR_c, ↓pop1_i, ↓pop1_r, ↓ldI_0, ↓ldI_s, ↓ldL_0, ↓ldL_s, ↓ldR_0, ↓ldR_s, ↓stL_0, ↓stL_s, ↓tk_0, ↓tk_s, ↓Kc_s, ↓Kc_n, isS_0, isS_s, asP_c, gi_0, gi_s, noL_0, noL_s, isW_n, isW_i, isW_r, rcv_c, rcvT_c, swK_0, swK_s, catS, or_false, false_or, not_false_eq_true, not_true_eq_false, true_implies, false_implies, and_true, true_and, ↓reduceIte, Nat.reduceAdd, Nat.reduceLT, Nat.reduceLeDiff, Nat.reduceEqDiff, Nat.reduceSub, forall_const, eq_self, and_self, or_true, true_or, hG.fo311, ↓asP_h hG.fp311_27, hG.fo328, hG.fa328, hG.fl328, vpL (i := 48) (n := 232) (by decide), show (48 : Int32).toNatClampNeg = 48 by decide, vpL (i := 51) (n := 232) (by decide), show (51 : Int32).toNatClampNeg = 51 by decide, v232 (show 52 + 3 * M + 1 < 232 by omega), nI_clamp (show 52 + 3 * M + 1 < 2 ^ 31 by omega), show nI (52 + 3 * M) + 2 = nI (52 + 3 * M + 2) from nI_add _ 2, v232 (show 52 + 3 * M + 2 < 232 by omega), nI_clamp (show 52 + 3 * M + 2 < 2 ^ 31 by omega)]
    rw [up2_rpH (by omega), e48, up2_rpH (by omega)]
    have f51' : rp (up2 (up2 (up2 J 328 (52 + 3 * M) g) 328 (52 + 3 * M + 1) (bcI (hbF (W 3) (W 4) 0))) 328 (52 + 3 * M + 2) (W 0 4)) W 328 51 = nI M := f51
    rw [f51', nI_1, up2_rpH (by decide)]
    rfl
  by_cases c : L = 60
  · subst c
    unfold pdR
    rw [if_pos rfl]
    have sh : ∀ k, k ≤ 177 → Ex E (d + 6) mX11_passDay (fun a b z => a = none ∧ b = G ∧ z = rp (up2 (wr3 (up2 (slR I 232) 328 51 (nI 59)) 59 g (bcI (hbF (W 3) (W 4) 0)) (W 0 4)) 328 51 (nI 60)) W) 19 [some (.ref 311), some (.int g), some (.int (nI (k + 3)))] [] (0, 0) G (rp (slR I (52 + k + 3)) W) := by
      refine dn ?_ ?_
      · have e51 : rp (slR I 232) W 328 51 = nI 60 := by rw [rp_hi (by decide), slR_lo (by decide)]; exact hI
        refine Ex.run TX11_passDay [19, 63] 60 ?_
        simp only [↓tX11_passDay, ↓opPush, ↓opILoad, ↓opLLoad, ↓opALoad, ↓opIStore, ↓opAStore, ↓opLStore, ↓opIInc, ↓opI1, ↓opII, ↓opID, ↓opLL, ↓opLD, ↓opLI, ↓opI2L, ↓opL2I, ↓opLcmp, ↓opDup, ↓opDupX1, ↓opDup2, ↓opPop, ↓opIf1, ↓opIf2, ↓opGoto, ↓opIRet, ↓opZRet, ↓opLRet, ↓opVRet, ↓opGetI, ↓opGetL, ↓opGetR, ↓opPutI, ↓opPutZ, ↓opPutL, ↓opPutR, ↓opIALoad, ↓opBALoad, ↓opZALoad, ↓opLALoad, ↓opAALoad, ↓opIAStore, ↓opZAStore, ↓opLAStore, ↓opALen, ↓opGetS, ↓opGetC, ↓opStrV, ↓opStrC, ↓opCallV, ↓opCallS, ↓opSw, ↓opCopy, ↓opCallT, ↓opBRet, ↓opObjI, ↓opNew, ↓opNewA, ↓opANew, ↓opAAStore, ↓opMNew, ↓opCallI, ↓wp_s, ↓wp_0, ↓popI_c, ↓popL_c, ↓popR_c, ↓pop1_i, ↓pop1_r, ↓ldI_0, ↓ldI_s, ↓ldL_0, ↓ldL_s, ↓ldR_0, ↓ldR_s, ↓stL_0, ↓stL_s, ↓tk_0, ↓tk_s, ↓Kc_s, ↓Kc_n, isS_0, isS_s, asP_c, gi_0, gi_s, noL_0, noL_s, isW_n, isW_i, isW_r, rcv_c, rcvT_c, swK_0, swK_s, catS, or_false, false_or, not_false_eq_true, not_true_eq_false, true_implies, false_implies, and_true, true_and, ↓reduceIte, Nat.reduceAdd, Nat.reduceLT, Nat.reduceLeDiff, Nat.reduceEqDiff, Nat.reduceSub, forall_const, eq_self, and_self, or_true, true_or, lpT (N := 180) (n := 180) rfl, hG.fo311, ↓asP_h hG.fp311_27, hG.fo328, hG.fa328, hG.fl328, vpL (i := 51) (n := 232) (by decide), show (51 : Int32).toNatClampNeg = 51 by decide, e51, show nI 60 - 1 = nI 59 from rfl]
        rw [up2_rpH (by decide)]
        exact (wr (up2 (slR I 232) 328 51 (nI 59)) 59 (by omega) (up2_sa _ _ _ _)).weak ⟨rfl, rfl, trivial⟩
      · intro k hk ih
        have e1 : (52 : Int32) + nI (k + 3) = nI (52 + k + 3) := by rw [show (52 : Int32) = nI 52 from rfl, nI_add, Nat.add_assoc]
        have e2 : nI (52 + k + 3) - 3 = nI (52 + k) := by rw [show (3 : Int32) = nI 3 from rfl, pk_sub (by omega), Nat.add_sub_cancel]
        have e3 : rp (slR I (52 + k + 3)) W 328 (52 + k + 3) = I 328 (52 + k + 3) := by rw [rp_hi (by omega), slR_hi]
        refine Ex.run TX11_passDay [19] 60 ?_
        simp only [↓tX11_passDay, ↓opPush, ↓opILoad, ↓opLLoad, ↓opALoad, ↓opIStore, ↓opAStore, ↓opLStore, ↓opIInc, ↓opI1, ↓opII, ↓opID, ↓opLL, ↓opLD, ↓opLI, ↓opI2L, ↓opL2I, ↓opLcmp, ↓opDup, ↓opDupX1, ↓opDup2, ↓opPop, ↓opIf1, ↓opIf2, ↓opGoto, ↓opIRet, ↓opZRet, ↓opLRet, ↓opVRet, ↓opGetI, ↓opGetL, ↓opGetR, ↓opPutI, ↓opPutZ, ↓opPutL, ↓opPutR, ↓opIALoad, ↓opBALoad, ↓opZALoad, ↓opLALoad, ↓opAALoad, ↓opIAStore, ↓opZAStore, ↓opLAStore, ↓opALen, ↓opGetS, ↓opGetC, ↓opStrV, ↓opStrC, ↓opCallV, ↓opCallS, ↓opSw, ↓opCopy, ↓opCallT, ↓opBRet, ↓opObjI, ↓opNew, ↓opNewA, ↓opANew, ↓opAAStore, ↓opMNew, ↓opCallI, ↓wp_s, ↓wp_0, ↓popI_c, ↓popL_c, ↓popR_c, ↓pop1_i, ↓pop1_r, ↓ldI_0, ↓ldI_s, ↓ldL_0, ↓ldL_s, ↓ldR_0, ↓ldR_s, ↓stL_0, ↓stL_s, ↓tk_0, ↓tk_s, ↓Kc_s, ↓Kc_n, isS_0, isS_s, asP_c, gi_0, gi_s, noL_0, noL_s, isW_n, isW_i, isW_r, rcv_c, rcvT_c, swK_0, swK_s, catS, or_false, false_or, not_false_eq_true, not_true_eq_false, true_implies, false_implies, and_true, true_and, ↓reduceIte, Nat.reduceAdd, Nat.reduceLT, Nat.reduceLeDiff, Nat.reduceEqDiff, Nat.reduceSub, forall_const, eq_self, and_self, or_true, true_or, lpF (N := 180) (n := 180) (k := k + 3) rfl (by omega) (by decide), hG.fo311, ↓asP_h hG.fp311_27, hG.fo328, hG.fa328, hG.fl328, e1, e2, v232 (show 52 + k < 232 by omega), nI_clamp (show 52 + k < 2 ^ 31 by omega), v232 (show 52 + k + 3 < 232 by omega), nI_clamp (show 52 + k + 3 < 2 ^ 31 by omega), e3, nI_1]
        rw [up2_rpH (by omega), slR_s]
        exact ih.to (by rw [show k + 1 + 3 = k + 3 + 1 by omega]) (by rw [show 52 + (k + 1) + 3 = 52 + k + 3 + 1 by omega])
    have e51 : rp I W 328 51 = 60 := by rw [rp_hi (by decide)]; exact hI
    refine Ct.run okX11_passDay TX11_passDay [19] 60 rfl rfl ?_
    simp only [↓tX11_passDay, ↓opPush, ↓opILoad, ↓opLLoad, ↓opALoad, ↓opIStore, ↓opAStore, ↓opLStore, ↓opIInc, ↓opI1, ↓opII, ↓opID, ↓opLL, ↓opLD, ↓opLI, ↓opI2L, ↓opL2I, ↓opLcmp, ↓opDup, ↓opDupX1, ↓opDup2, ↓opPop, ↓opIf1, ↓opIf2, ↓opGoto, ↓opIRet, ↓opZRet, ↓opLRet, ↓opVRet, ↓opGetI, ↓opGetL, ↓opGetR, ↓opPutI, ↓opPutZ, ↓opPutL, ↓opPutR, ↓opIALoad, ↓opBALoad, ↓opZALoad, ↓opLALoad, ↓opAALoad, ↓opIAStore, ↓opZAStore, ↓opLAStore, ↓opALen, ↓opGetS, ↓opGetC, ↓opStrV, ↓opStrC, ↓opCallV, ↓opCallS, ↓opSw, ↓opCopy, ↓opCallT, ↓opBRet, ↓opObjI, ↓opNew, ↓opNewA, ↓opANew, ↓opAAStore, ↓opMNew, ↓opCallI, ↓wp_s, ↓wp_0, ↓popI_c, ↓popL_c, ↓popR_c, ↓pop1_i, ↓pop1_r, ↓ldI_0, ↓ldI_s, ↓ldL_0, ↓ldL_s, ↓ldR_0, ↓ldR_s, ↓stL_0, ↓stL_s, ↓tk_0, ↓tk_s, ↓Kc_s, ↓Kc_n, isS_0, isS_s, asP_c, gi_0, gi_s, noL_0, noL_s, isW_n, isW_i, isW_r, rcv_c, rcvT_c, swK_0, swK_s, catS, or_false, false_or, not_false_eq_true, not_true_eq_false, true_implies, false_implies, and_true, true_and, ↓reduceIte, Nat.reduceAdd, Nat.reduceLT, Nat.reduceLeDiff, Nat.reduceEqDiff, Nat.reduceSub, forall_const, eq_self, and_self, or_true, true_or, lve_i, lve_r, lve_l, lve_0, List.replicate_succ, List.replicate_zero, mX, mX11_passDay, hG.fo311, ↓asP_h hG.fp311_1, hG.fo312, hG.fa312, hG.fl312, ↓asP_h hG.fp311_6, hG.fo313, hG.fa313, hG.fl313, ↓asP_h hG.fp311_7, hG.fo314, hG.fa314, hG.fl314, ↓asP_h hG.fp311_8, hG.fo315, hG.fa315, hG.fl315, ↓asP_h hG.fp311_9, hG.fo316, hG.fa316, hG.fl316, ↓asP_h hG.fp311_10, hG.fo317, hG.fa317, hG.fl317, ↓asP_h hG.fp311_11, hG.fo318, hG.fa318, hG.fl318, ↓asP_h hG.fp311_12, hG.fo319, hG.fa319, hG.fl319, ↓asP_h hG.fp311_15, hG.fo320, hG.fa320, hG.fl320, ↓asP_h hG.fp311_16, hG.fo321, hG.fa321, hG.fl321, ↓asP_h hG.fp311_17, hG.fo322, hG.fa322, hG.fl322, ↓asP_h hG.fp311_18, hG.fo323, hG.fa323, hG.fl323, ↓asP_h hG.fp311_19, hG.fo324, hG.fa324, hG.fl324, ↓asP_h hG.fp311_22, hG.fo325, hG.fa325, hG.fl325, ↓asP_h hG.fp311_23, hG.fo326, hG.fa326, hG.fl326, ↓asP_h hG.fp311_24, hG.fo327, hG.fa327, hG.fl327, ↓asP_h hG.fp311_27, hG.fo328, hG.fa328, hG.fl328, ↓asP_h hG.fp311_28, hG.fo329, hG.fa329, hG.fl329, ↓asP_h hG.fp311_31, hG.fo330, hG.fa330, hG.fl330, ↓asP_h hG.fp311_34, hG.fo331, hG.fa331, hG.fl331, ↓asP_h hG.fp311_37, hG.fo332, hG.fa332, hG.fl332, ↓asP_h hG.fp311_38, hG.fo333, hG.fa333, hG.fl333, ↓asP_h hG.fp311_39, hG.fo334, hG.fl334, ↓asP_h hG.fp311_41, hG.fo335, hG.fa335, hG.fl335, ↓asP_h hG.fp311_42, hG.fo336, hG.fa336, hG.fl336, ↓asP_h hG.fp311_43, hG.fo337, hG.fa337, hG.fl337]
    refine ⟨_, _, _, _, rfl, hl, ?_⟩
    simp only [↓tX11_passDay, ↓opPush, ↓opILoad, ↓opLLoad, ↓opALoad, ↓opIStore, ↓opAStore, ↓opLStore, ↓opIInc, ↓opI1, ↓opII, ↓opID, ↓opLL, ↓opLD, ↓opLI, ↓opI2L, ↓opL2I, ↓opLcmp, ↓opDup, ↓opDupX1, ↓opDup2, ↓opPop, ↓opIf1, ↓opIf2, ↓opGoto, ↓opIRet, ↓opZRet, ↓opLRet, ↓opVRet, ↓opGetI, ↓opGetL, ↓opGetR, ↓opPutI, ↓opPutZ, ↓opPutL, ↓opPutR, ↓opIALoad, ↓opBALoad, ↓opZALoad, ↓opLALoad, ↓opAALoad, ↓opIAStore, ↓opZAStore, ↓opLAStore, ↓opALen, ↓opGetS, ↓opGetC, ↓opStrV, ↓opStrC, ↓opCallV, ↓opCallS, ↓opSw, ↓opCopy, ↓opCallT, ↓opBRet, ↓opObjI, ↓opNew, ↓opNewA, ↓opANew, ↓opAAStore, ↓opMNew, ↓opCallI, ↓wp_s, ↓wp_0, ↓popI_c, ↓popL_c, ↓popR_c, ↓pop1_i, ↓pop1_r, ↓ldI_0, ↓ldI_s, ↓ldL_0, ↓ldL_s, ↓ldR_0, ↓ldR_s, ↓stL_0, ↓stL_s, ↓tk_0, ↓tk_s, ↓Kc_s, ↓Kc_n, isS_0, isS_s, asP_c, gi_0, gi_s, noL_0, noL_s, isW_n, isW_i, isW_r, rcv_c, rcvT_c, swK_0, swK_s, catS, or_false, false_or, not_false_eq_true, not_true_eq_false, true_implies, false_implies, and_true, true_and, ↓reduceIte, Nat.reduceAdd, Nat.reduceLT, Nat.reduceLeDiff, Nat.reduceEqDiff, Nat.reduceSub, forall_const, eq_self, and_self, or_true, true_or, hG.fo311, ↓asP_h hG.fp311_27, hG.fo328, hG.fa328, hG.fl328, vpL (i := 51) (n := 232) (by decide), show (51 : Int32).toNatClampNeg = 51 by decide, e51]
    have := sh 0 (by omega)
    rw [slR_0] at this
    exact this
  · have hne : ¬ rp I W 328 51 = 60 := by
      rw [rp_hi (by decide), hI]
      intro z
      rw [show (60 : Int32) = nI 60 from rfl, nI_eq (by omega) (by decide)] at z
      exact c z
    unfold pdR
    rw [if_neg c]
    refine Ct.run okX11_passDay TX11_passDay [63] 60 rfl rfl ?_
    simp only [↓tX11_passDay, ↓opPush, ↓opILoad, ↓opLLoad, ↓opALoad, ↓opIStore, ↓opAStore, ↓opLStore, ↓opIInc, ↓opI1, ↓opII, ↓opID, ↓opLL, ↓opLD, ↓opLI, ↓opI2L, ↓opL2I, ↓opLcmp, ↓opDup, ↓opDupX1, ↓opDup2, ↓opPop, ↓opIf1, ↓opIf2, ↓opGoto, ↓opIRet, ↓opZRet, ↓opLRet, ↓opVRet, ↓opGetI, ↓opGetL, ↓opGetR, ↓opPutI, ↓opPutZ, ↓opPutL, ↓opPutR, ↓opIALoad, ↓opBALoad, ↓opZALoad, ↓opLALoad, ↓opAALoad, ↓opIAStore, ↓opZAStore, ↓opLAStore, ↓opALen, ↓opGetS, ↓opGetC, ↓opStrV, ↓opStrC, ↓opCallV, ↓opCallS, ↓opSw, ↓opCopy, ↓opCallT, ↓opBRet, ↓opObjI, ↓opNew, ↓opNewA, ↓opANew, ↓opAAStore, ↓opMNew, ↓opCallI, ↓wp_s, ↓wp_0, ↓popI_c, ↓popL_c, ↓popR_c, ↓pop1_i, ↓pop1_r, ↓ldI_0, ↓ldI_s, ↓ldL_0, ↓ldL_s, ↓ldR_0, ↓ldR_s, ↓stL_0, ↓stL_s, ↓tk_0, ↓tk_s, ↓Kc_s, ↓Kc_n, isS_0, isS_s, asP_c, gi_0, gi_s, noL_0, noL_s, isW_n, isW_i, isW_r, rcv_c, rcvT_c, swK_0, swK_s, catS, or_false, false_or, not_false_eq_true, not_true_eq_false, true_implies, false_implies, and_true, true_and, ↓reduceIte, Nat.reduceAdd, Nat.reduceLT, Nat.reduceLeDiff, Nat.reduceEqDiff, Nat.reduceSub, forall_const, eq_self, and_self, or_true, true_or, lve_i, lve_r, lve_l, lve_0, List.replicate_succ, List.replicate_zero, mX, mX11_passDay, hG.fo311, ↓asP_h hG.fp311_1, hG.fo312, hG.fa312, hG.fl312, ↓asP_h hG.fp311_6, hG.fo313, hG.fa313, hG.fl313, ↓asP_h hG.fp311_7, hG.fo314, hG.fa314, hG.fl314, ↓asP_h hG.fp311_8, hG.fo315, hG.fa315, hG.fl315, ↓asP_h hG.fp311_9, hG.fo316, hG.fa316, hG.fl316, ↓asP_h hG.fp311_10, hG.fo317, hG.fa317, hG.fl317, ↓asP_h hG.fp311_11, hG.fo318, hG.fa318, hG.fl318, ↓asP_h hG.fp311_12, hG.fo319, hG.fa319, hG.fl319, ↓asP_h hG.fp311_15, hG.fo320, hG.fa320, hG.fl320, ↓asP_h hG.fp311_16, hG.fo321, hG.fa321, hG.fl321, ↓asP_h hG.fp311_17, hG.fo322, hG.fa322, hG.fl322, ↓asP_h hG.fp311_18, hG.fo323, hG.fa323, hG.fl323, ↓asP_h hG.fp311_19, hG.fo324, hG.fa324, hG.fl324, ↓asP_h hG.fp311_22, hG.fo325, hG.fa325, hG.fl325, ↓asP_h hG.fp311_23, hG.fo326, hG.fa326, hG.fl326, ↓asP_h hG.fp311_24, hG.fo327, hG.fa327, hG.fl327, ↓asP_h hG.fp311_27, hG.fo328, hG.fa328, hG.fl328, ↓asP_h hG.fp311_28, hG.fo329, hG.fa329, hG.fl329, ↓asP_h hG.fp311_31, hG.fo330, hG.fa330, hG.fl330, ↓asP_h hG.fp311_34, hG.fo331, hG.fa331, hG.fl331, ↓asP_h hG.fp311_37, hG.fo332, hG.fa332, hG.fl332, ↓asP_h hG.fp311_38, hG.fo333, hG.fa333, hG.fl333, ↓asP_h hG.fp311_39, hG.fo334, hG.fl334, ↓asP_h hG.fp311_41, hG.fo335, hG.fa335, hG.fl335, ↓asP_h hG.fp311_42, hG.fo336, hG.fa336, hG.fl336, ↓asP_h hG.fp311_43, hG.fo337, hG.fa337, hG.fl337]
    refine ⟨_, _, _, _, rfl, hl, ?_⟩
    simp only [↓tX11_passDay, ↓opPush, ↓opILoad, ↓opLLoad, ↓opALoad, ↓opIStore, ↓opAStore, ↓opLStore, ↓opIInc, ↓opI1, ↓opII, ↓opID, ↓opLL, ↓opLD, ↓opLI, ↓opI2L, ↓opL2I, ↓opLcmp, ↓opDup, ↓opDupX1, ↓opDup2, ↓opPop, ↓opIf1, ↓opIf2, ↓opGoto, ↓opIRet, ↓opZRet, ↓opLRet, ↓opVRet, ↓opGetI, ↓opGetL, ↓opGetR, ↓opPutI, ↓opPutZ, ↓opPutL, ↓opPutR, ↓opIALoad, ↓opBALoad, ↓opZALoad, ↓opLALoad, ↓opAALoad, ↓opIAStore, ↓opZAStore, ↓opLAStore, ↓opALen, ↓opGetS, ↓opGetC, ↓opStrV, ↓opStrC, ↓opCallV, ↓opCallS, ↓opSw, ↓opCopy, ↓opCallT, ↓opBRet, ↓opObjI, ↓opNew, ↓opNewA, ↓opANew, ↓opAAStore, ↓opMNew, ↓opCallI, ↓wp_s, ↓wp_0, ↓popI_c, ↓popL_c, ↓popR_c, ↓pop1_i, ↓pop1_r, ↓ldI_0, ↓ldI_s, ↓ldL_0, ↓ldL_s, ↓ldR_0, ↓ldR_s, ↓stL_0, ↓stL_s, ↓tk_0, ↓tk_s, ↓Kc_s, ↓Kc_n, isS_0, isS_s, asP_c, gi_0, gi_s, noL_0, noL_s, isW_n, isW_i, isW_r, rcv_c, rcvT_c, swK_0, swK_s, catS, or_false, false_or, not_false_eq_true, not_true_eq_false, true_implies, false_implies, and_true, true_and, ↓reduceIte, Nat.reduceAdd, Nat.reduceLT, Nat.reduceLeDiff, Nat.reduceEqDiff, Nat.reduceSub, forall_const, eq_self, and_self, or_true, true_or, hG.fo311, ↓asP_h hG.fp311_27, hG.fo328, hG.fa328, hG.fl328, vpL (i := 51) (n := 232) (by decide), show (51 : Int32).toNatClampNeg = 51 by decide, hne]
    exact wr I L (by omega) hI
end
