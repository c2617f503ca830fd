/-! ===== the reference: aside and back; coins and day do not matter to a sunset ===== -/
def nw (V : SV) (k : Nat) : Int32 := if k < 48 then V (k % 4 + 1) (k / 4) else V 0 (k - 44)
theorem rp_nw {I : IM} {V : SV} {k : Nat} (h : k < 51) : rp I V 328 k = nw V k := if_pos ⟨rfl, h⟩
theorem nw_congr {V W : SV} (h : eqS V W) {k : Nat} (hk : k < 51) : nw V k = nw W k := by
  unfold nw
  by_cases c : k < 48
  · rw [if_pos c, if_pos c, h _ _ (Or.inr ⟨by omega, by omega, by omega⟩)]
  · rw [if_neg c, if_neg c, h _ _ (Or.inl ⟨rfl, by omega⟩)]
/-- V lies aside at D -/
def hasA (I : IM) (D : Nat) (V : SV) : Prop := ∀ k, k < 51 → I 331 (51 * D + k) = nw V k
def paI (I : IM) (D : Nat) (V : SV) (n : Nat) : IM := fun b k => if b = 331 ∧ 51 * D ≤ k ∧ k < 51 * D + n then nw V (k - 51 * D) else I b k
/-- the same but for what the reference reckons with -/
def eqR (I J : IM) : Prop := ∀ b k, ¬ (b = 320 ∨ b = 321 ∨ b = 331 ∨ b = 335 ∨ b = 336 ∨ b = 311 ∧ (k = 35 ∨ k = 36)) → J b k = I b k
theorem eqR.rf {I : IM} : eqR I I := fun _ _ _ => rfl
theorem eqR.trans {I J K : IM} (h : eqR I J) (h2 : eqR J K) : eqR I K := fun b k q => (h2 b k q).trans (h b k q)
theorem eqR.row {I J : IM} (h : eqR I J) {b : Nat} (h0 : b ≠ 320) (h1 : b ≠ 321) (h2 : b ≠ 331) (h3 : b ≠ 335) (h4 : b ≠ 336) (h5 : b ≠ 311) : J b = I b := by
  funext k
  exact h b k (by omega)
theorem paI_R (I : IM) (D : Nat) (V : SV) (n : Nat) : eqR I (paI I D V n) := fun b k hb => by
  unfold paI
  rw [if_neg (fun z => hb (by omega))]
theorem paI_ne {I : IM} {D : Nat} {V : SV} {n b : Nat} (h : b ≠ 331) : paI I D V n b = I b := by
  funext k
  unfold paI
  rw [if_neg (fun z => h z.1)]
theorem paI_has (I : IM) (D : Nat) (V : SV) : hasA (paI I D V 51) D V := fun k hk => by
  unfold paI
  rw [if_pos ⟨rfl, by omega, by omega⟩, Nat.add_sub_cancel_left]
theorem paI_keep {I : IM} {D D' : Nat} {V W : SV} (h : D' ≠ D) (hA : hasA I D' W) : hasA (paI I D V 51) D' W := fun k hk => by
  unfold paI
  rw [if_neg (fun z => by omega)]
  exact hA k hk
theorem paI_0 (I : IM) (D : Nat) (V : SV) : paI I D V 0 = I := by
  funext b k
  unfold paI
  rw [if_neg (fun z => by omega)]
theorem paI_s (I : IM) (D : Nat) (V : SV) {n : Nat} : up2 (paI I D V n) 331 (51 * D + n) (nw V n) = paI I D V (n + 1) := by
  funext b k
  unfold up2 paI
  by_cases e : b = 331
  · subst e
    by_cases e2 : k = 51 * D + n
    · subst e2
      rw [if_pos rfl, if_pos rfl, if_pos ⟨rfl, by omega, by omega⟩, Nat.add_sub_cancel_left]
    · rw [if_pos rfl, if_neg e2]
      by_cases c : 51 * D ≤ k ∧ k < 51 * D + n
      · rw [if_pos ⟨rfl, c⟩, if_pos ⟨rfl, c.1, by omega⟩]
      · rw [if_neg (fun z => c z.2), if_neg (fun z => by omega)]
  · rw [if_neg e, if_neg (fun z => e z.1), if_neg (fun z => e z.1)]
theorem up2_rpF {I : IM} {V : SV} {b k : Nat} {v : Int32} (h : b ≠ 328) : up2 (rp I V) b k v = rp (up2 I b k v) V := by
  funext a j
  by_cases e : a = 328
  · subst e
    rw [up2_ne (by omega)]
    by_cases hj : j < 51
    · rw [rp_nw hj, rp_nw hj]
    · rw [rp_hi (by omega), rp_hi (by omega), up2_ne (by omega)]
  · rw [rp_ne e]
    by_cases e2 : a = b
    · subst e2
      by_cases e3 : j = k
      · subst e3
        rw [up2_sa, up2_sa]
      · rw [up2_nk e3, up2_nk e3, rp_ne e]
    · rw [up2_ne e2, up2_ne e2, rp_ne e]
/-- the first n entries of now are W's, the others V's -/
def tbI (I : IM) (V W : SV) (n : Nat) : IM := fun b k => if b = 328 ∧ k < n then nw W k else rp I V b k
theorem ix51 (k r : Nat) : (51 : Int32) * nI k + nI r = nI (51 * k + r) := by
  rw [show (51 : Int32) = nI 51 from rfl, pk_mul, nI_add]
section
variable {E : EV} {d : Nat} {G : GD} {I : IM}
set_option maxRecDepth 100000 in
set_option maxHeartbeats 4000000 in
theorem r_putAside (hG : GTs G) {D : Nat} (hD : D ≤ 10) (V : SV) : Run E d mX11_putAside [.ref 311, .int (nI D)] (0, 0) G (rp I V) none G (rp (paI I D V 51) V) := by
  have key : ∀ k, k ≤ 51 → Ex E d mX11_putAside (fun a b c => a = none ∧ b = G ∧ c = rp (paI I D V 51) V) 2 [some (.ref 311), some (.int (nI D)), some (.int (nI k))] [] (0, 0) G (rp (paI I D V k) V) := by
    refine dn ?_ ?_
    · refine Ex.run TX11_putAside [2] 60 ?_
      simp only [↓tX11_putAside, ↓opPush, ↓opILoad, ↓opLLoad, ↓opALoad, ↓opIStore, ↓opAStore, ↓opLStore, ↓opIInc, ↓opI1, ↓opII, ↓opID, ↓opLL, ↓opLD, ↓opLI, ↓opI2L, ↓opL2I, ↓opLcmp, ↓opDup, ↓opDupX1, ↓opDup2, ↓opPop, ↓opIf1, ↓opIf2, ↓opGoto, ↓opIRet, ↓opZRet, ↓opLRet, ↓opVRet, ↓opGetI, ↓opGetL, ↓opGetR, ↓opPutI, ↓opPutZ, ↓opPutL, ↓opPutR, ↓opIALoad, ↓opBALoad, ↓opZALoad, ↓opLALoad, ↓opAALoad, ↓opIAStore, ↓opZAStore, ↓opLAStore, ↓opALen, ↓opGetS, ↓opGetC, ↓opStrV, ↓opStrC, ↓opCallV, ↓opCallS, ↓opSw, ↓opCopy, ↓opCallT, ↓opBRet, ↓opObjI, ↓opNew, ↓opNewA, ↓opANew, ↓opAAStore, ↓opMNew, ↓opCallI, ↓wp_s, ↓wp_0, ↓popI_c, ↓popL_c, ↓popR_c, ↓pop1_i, ↓pop1_r, ↓ldI_0, ↓ldI_s, ↓ldL_0, ↓ldL_s, ↓ldR_0, ↓ldR_s, ↓stL_0, ↓stL_s, ↓tk_0, ↓tk_s, ↓Kc_s, ↓Kc_n, isS_0, isS_s, asP_c, gi_0, gi_s, noL_0, noL_s, isW_n, isW_i, isW_r, rcv_c, rcvT_c, swK_0, swK_s, catS, or_false, false_or, not_false_eq_true, not_true_eq_false, true_implies, false_implies, and_true, true_and, ↓reduceIte, Nat.reduceAdd, Nat.reduceLT, Nat.reduceLeDiff, Nat.reduceEqDiff, Nat.reduceSub, forall_const, eq_self, and_self, or_true, true_or, lpT (N := 51) (n := 51) rfl]
    · intro k hk ih
      refine Ex.run TX11_putAside [2] 60 ?_
      simp only [↓tX11_putAside, ↓opPush, ↓opILoad, ↓opLLoad, ↓opALoad, ↓opIStore, ↓opAStore, ↓opLStore, ↓opIInc, ↓opI1, ↓opII, ↓opID, ↓opLL, ↓opLD, ↓opLI, ↓opI2L, ↓opL2I, ↓opLcmp, ↓opDup, ↓opDupX1, ↓opDup2, ↓opPop, ↓opIf1, ↓opIf2, ↓opGoto, ↓opIRet, ↓opZRet, ↓opLRet, ↓opVRet, ↓opGetI, ↓opGetL, ↓opGetR, ↓opPutI, ↓opPutZ, ↓opPutL, ↓opPutR, ↓opIALoad, ↓opBALoad, ↓opZALoad, ↓opLALoad, ↓opAALoad, ↓opIAStore, ↓opZAStore, ↓opLAStore, ↓opALen, ↓opGetS, ↓opGetC, ↓opStrV, ↓opStrC, ↓opCallV, ↓opCallS, ↓opSw, ↓opCopy, ↓opCallT, ↓opBRet, ↓opObjI, ↓opNew, ↓opNewA, ↓opANew, ↓opAAStore, ↓opMNew, ↓opCallI, ↓wp_s, ↓wp_0, ↓popI_c, ↓popL_c, ↓popR_c, ↓pop1_i, ↓pop1_r, ↓ldI_0, ↓ldI_s, ↓ldL_0, ↓ldL_s, ↓ldR_0, ↓ldR_s, ↓stL_0, ↓stL_s, ↓tk_0, ↓tk_s, ↓Kc_s, ↓Kc_n, isS_0, isS_s, asP_c, gi_0, gi_s, noL_0, noL_s, isW_n, isW_i, isW_r, rcv_c, rcvT_c, swK_0, swK_s, catS, or_false, false_or, not_false_eq_true, not_true_eq_false, true_implies, false_implies, and_true, true_and, ↓reduceIte, Nat.reduceAdd, Nat.reduceLT, Nat.reduceLeDiff, Nat.reduceEqDiff, Nat.reduceSub, forall_const, eq_self, and_self, or_true, true_or, lpF (N := 51) (n := 51) (k := k) rfl hk (by decide), hG.fo311, ↓asP_h hG.fp311_27, hG.fo328, hG.fa328, hG.fl328, ↓asP_h hG.fp311_34, hG.fo331, hG.fa331, hG.fl331, ix51, vp_in_nI (show 51 * D + k < 561 by omega) (by decide), nI_clamp (show 51 * D + k < 2 ^ 31 by omega), v232 (show k < 232 by omega), nI_clamp (show k < 2 ^ 31 by omega)]
      refine ih.to (by rw [nI_succ]) ?_
      rw [rp_nw hk, up2_rpF (by decide), paI_s]
  refine Ct.run okX11_putAside TX11_putAside [2] 60 rfl rfl ?_
  simp only [↓tX11_putAside, ↓opPush, ↓opILoad, ↓opLLoad, ↓opALoad, ↓opIStore, ↓opAStore, ↓opLStore, ↓opIInc, ↓opI1, ↓opII, ↓opID, ↓opLL, ↓opLD, ↓opLI, ↓opI2L, ↓opL2I, ↓opLcmp, ↓opDup, ↓opDupX1, ↓opDup2, ↓opPop, ↓opIf1, ↓opIf2, ↓opGoto, ↓opIRet, ↓opZRet, ↓opLRet, ↓opVRet, ↓opGetI, ↓opGetL, ↓opGetR, ↓opPutI, ↓opPutZ, ↓opPutL, ↓opPutR, ↓opIALoad, ↓opBALoad, ↓opZALoad, ↓opLALoad, ↓opAALoad, ↓opIAStore, ↓opZAStore, ↓opLAStore, ↓opALen, ↓opGetS, ↓opGetC, ↓opStrV, ↓opStrC, ↓opCallV, ↓opCallS, ↓opSw, ↓opCopy, ↓opCallT, ↓opBRet, ↓opObjI, ↓opNew, ↓opNewA, ↓opANew, ↓opAAStore, ↓opMNew, ↓opCallI, ↓wp_s, ↓wp_0, ↓popI_c, ↓popL_c, ↓popR_c, ↓pop1_i, ↓pop1_r, ↓ldI_0, ↓ldI_s, ↓ldL_0, ↓ldL_s, ↓ldR_0, ↓ldR_s, ↓stL_0, ↓stL_s, ↓tk_0, ↓tk_s, ↓Kc_s, ↓Kc_n, isS_0, isS_s, asP_c, gi_0, gi_s, noL_0, noL_s, isW_n, isW_i, isW_r, rcv_c, rcvT_c, swK_0, swK_s, catS, or_false, false_or, not_false_eq_true, not_true_eq_false, true_implies, false_implies, and_true, true_and, ↓reduceIte, Nat.reduceAdd, Nat.reduceLT, Nat.reduceLeDiff, Nat.reduceEqDiff, Nat.reduceSub, forall_const, eq_self, and_self, or_true, true_or, lve_i, lve_r, lve_l, lve_0, List.replicate_succ, List.replicate_zero, mX, mX11_putAside]
  have := key 0 (by decide)
  rw [paI_0] at this
  exact this
set_option maxRecDepth 100000 in
set_option maxHeartbeats 4000000 in
theorem r_takeBack (hG : GTs G) {D : Nat} (hD : D ≤ 10) {V W : SV} (hA : hasA I D W) : Run E d mX11_takeBack [.ref 311, .int (nI D)] (0, 0) G (rp I V) none G (rp I W) := by
  have key : ∀ k, k ≤ 51 → Ex E d mX11_takeBack (fun a b c => a = none ∧ b = G ∧ c = rp I W) 2 [some (.ref 311), some (.int (nI D)), some (.int (nI k))] [] (0, 0) G (tbI I V W k) := by
    refine dn ?_ ?_
    · refine Ex.run TX11_takeBack [2] 60 ?_
      simp only [↓tX11_takeBack, ↓opPush, ↓opILoad, ↓opLLoad, ↓opALoad, ↓opIStore, ↓opAStore, ↓opLStore, ↓opIInc, ↓opI1, ↓opII, ↓opID, ↓opLL, ↓opLD, ↓opLI, ↓opI2L, ↓opL2I, ↓opLcmp, ↓opDup, ↓opDupX1, ↓opDup2, ↓opPop, ↓opIf1, ↓opIf2, ↓opGoto, ↓opIRet, ↓opZRet, ↓opLRet, ↓opVRet, ↓opGetI, ↓opGetL, ↓opGetR, ↓opPutI, ↓opPutZ, ↓opPutL, ↓opPutR, ↓opIALoad, ↓opBALoad, ↓opZALoad, ↓opLALoad, ↓opAALoad, ↓opIAStore, ↓opZAStore, ↓opLAStore, ↓opALen, ↓opGetS, ↓opGetC, ↓opStrV, ↓opStrC, ↓opCallV, ↓opCallS, ↓opSw, ↓opCopy, ↓opCallT, ↓opBRet, ↓opObjI, ↓opNew, ↓opNewA, ↓opANew, ↓opAAStore, ↓opMNew, ↓opCallI, ↓wp_s, ↓wp_0, ↓popI_c, ↓popL_c, ↓popR_c, ↓pop1_i, ↓pop1_r, ↓ldI_0, ↓ldI_s, ↓ldL_0, ↓ldL_s, ↓ldR_0, ↓ldR_s, ↓stL_0, ↓stL_s, ↓tk_0, ↓tk_s, ↓Kc_s, ↓Kc_n, isS_0, isS_s, asP_c, gi_0, gi_s, noL_0, noL_s, isW_n, isW_i, isW_r, rcv_c, rcvT_c, swK_0, swK_s, catS, or_false, false_or, not_false_eq_true, not_true_eq_false, true_implies, false_implies, and_true, true_and, ↓reduceIte, Nat.reduceAdd, Nat.reduceLT, Nat.reduceLeDiff, Nat.reduceEqDiff, Nat.reduceSub, forall_const, eq_self, and_self, or_true, true_or, lpT (N := 51) (n := 51) rfl]
      funext b k
      unfold tbI
      by_cases c : b = 328 ∧ k < 51
      · rw [if_pos c, c.1, rp_nw c.2]
      · rw [if_neg c]
        unfold rp
        rw [if_neg c, if_neg c]
    · intro k hk ih
      have e : tbI I V W k 331 (51 * D + k) = nw W k := by
        unfold tbI
        rw [if_neg (fun z => absurd z.1 (by decide)), rp_ne (by decide)]
        exact hA k hk
      refine Ex.run TX11_takeBack [2] 60 ?_
      simp only [↓tX11_takeBack, ↓opPush, ↓opILoad, ↓opLLoad, ↓opALoad, ↓opIStore, ↓opAStore, ↓opLStore, ↓opIInc, ↓opI1, ↓opII, ↓opID, ↓opLL, ↓opLD, ↓opLI, ↓opI2L, ↓opL2I, ↓opLcmp, ↓opDup, ↓opDupX1, ↓opDup2, ↓opPop, ↓opIf1, ↓opIf2, ↓opGoto, ↓opIRet, ↓opZRet, ↓opLRet, ↓opVRet, ↓opGetI, ↓opGetL, ↓opGetR, ↓opPutI, ↓opPutZ, ↓opPutL, ↓opPutR, ↓opIALoad, ↓opBALoad, ↓opZALoad, ↓opLALoad, ↓opAALoad, ↓opIAStore, ↓opZAStore, ↓opLAStore, ↓opALen, ↓opGetS, ↓opGetC, ↓opStrV, ↓opStrC, ↓opCallV, ↓opCallS, ↓opSw, ↓opCopy, ↓opCallT, ↓opBRet, ↓opObjI, ↓opNew, ↓opNewA, ↓opANew, ↓opAAStore, ↓opMNew, ↓opCallI, ↓wp_s, ↓wp_0, ↓popI_c, ↓popL_c, ↓popR_c, ↓pop1_i, ↓pop1_r, ↓ldI_0, ↓ldI_s, ↓ldL_0, ↓ldL_s, ↓ldR_0, ↓ldR_s, ↓stL_0, ↓stL_s, ↓tk_0, ↓tk_s, ↓Kc_s, ↓Kc_n, isS_0, isS_s, asP_c, gi_0, gi_s, noL_0, noL_s, isW_n, isW_i, isW_r, rcv_c, rcvT_c, swK_0, swK_s, catS, or_false, false_or, not_false_eq_true, not_true_eq_false, true_implies, false_implies, and_true, true_and, ↓reduceIte, Nat.reduceAdd, Nat.reduceLT, Nat.reduceLeDiff, Nat.reduceEqDiff, Nat.reduceSub, forall_const, eq_self, and_self, or_true, true_or, lpF (N := 51) (n := 51) (k := k) rfl hk (by decide), hG.fo311, ↓asP_h hG.fp311_27, hG.fo328, hG.fa328, hG.fl328, ↓asP_h hG.fp311_34, hG.fo331, hG.fa331, hG.fl331, ix51, vp_in_nI (show 51 * D + k < 561 by omega) (by decide), nI_clamp (show 51 * D + k < 2 ^ 31 by omega), v232 (show k < 232 by omega), nI_clamp (show k < 2 ^ 31 by omega), e]
      refine ih.to (by rw [nI_succ]) ?_
      funext b j
      unfold up2 tbI
      by_cases e : b = 328
      · subst e
        by_cases e2 : j = k
        · subst e2
          rw [if_pos ⟨rfl, by omega⟩, if_pos rfl, if_pos rfl]
        · rw [if_pos rfl, if_neg e2]
          by_cases c : j < k
          · rw [if_pos ⟨rfl, Nat.lt_succ_of_lt c⟩, if_pos ⟨rfl, c⟩]
          · rw [if_neg (fun z => by omega), if_neg (fun z => c z.2)]
      · rw [if_neg (fun z => e z.1), if_neg e, if_neg (fun z => e z.1)]
  refine Ct.run okX11_takeBack TX11_takeBack [2] 60 rfl rfl ?_
  simp only [↓tX11_takeBack, ↓opPush, ↓opILoad, ↓opLLoad, ↓opALoad, ↓opIStore, ↓opAStore, ↓opLStore, ↓opIInc, ↓opI1, ↓opII, ↓opID, ↓opLL, ↓opLD, ↓opLI, ↓opI2L, ↓opL2I, ↓opLcmp, ↓opDup, ↓opDupX1, ↓opDup2, ↓opPop, ↓opIf1, ↓opIf2, ↓opGoto, ↓opIRet, ↓opZRet, ↓opLRet, ↓opVRet, ↓opGetI, ↓opGetL, ↓opGetR, ↓opPutI, ↓opPutZ, ↓opPutL, ↓opPutR, ↓opIALoad, ↓opBALoad, ↓opZALoad, ↓opLALoad, ↓opAALoad, ↓opIAStore, ↓opZAStore, ↓opLAStore, ↓opALen, ↓opGetS, ↓opGetC, ↓opStrV, ↓opStrC, ↓opCallV, ↓opCallS, ↓opSw, ↓opCopy, ↓opCallT, ↓opBRet, ↓opObjI, ↓opNew, ↓opNewA, ↓opANew, ↓opAAStore, ↓opMNew, ↓opCallI, ↓wp_s, ↓wp_0, ↓popI_c, ↓popL_c, ↓popR_c, ↓pop1_i, ↓pop1_r, ↓ldI_0, ↓ldI_s, ↓ldL_0, ↓ldL_s, ↓ldR_0, ↓ldR_s, ↓stL_0, ↓stL_s, ↓tk_0, ↓tk_s, ↓Kc_s, ↓Kc_n, isS_0, isS_s, asP_c, gi_0, gi_s, noL_0, noL_s, isW_n, isW_i, isW_r, rcv_c, rcvT_c, swK_0, swK_s, catS, or_false, false_or, not_false_eq_true, not_true_eq_false, true_implies, false_implies, and_true, true_and, ↓reduceIte, Nat.reduceAdd, Nat.reduceLT, Nat.reduceLeDiff, Nat.reduceEqDiff, Nat.reduceSub, forall_const, eq_self, and_self, or_true, true_or, lve_i, lve_r, lve_l, lve_0, List.replicate_succ, List.replicate_zero, mX, mX11_takeBack]
  refine (key 0 (by decide)).to rfl ?_
  funext b k
  unfold tbI
  rw [if_neg (fun z => by omega)]
end
/-- coins and day as given -/
def num (V : SV) (a b : Int32) : SV := up2 (up2 V 0 5 a) 0 6 b
theorem num_r {V : SV} {a b : Int32} {r : Nat} (h : r ≠ 0) : num V a b r = V r := by
  unfold num
  rw [up2_ne h, up2_ne h]
theorem num_4 {V : SV} {a b : Int32} : num V a b 0 4 = V 0 4 := by
  unfold num
  rw [up2_nk (by decide), up2_nk (by decide)]
theorem num_num (V : SV) (a b c e : Int32) : num (num V a b) c e = num V c e := by
  funext r k
  unfold num up2
  by_cases c0 : r = 0
  · subst c0
    simp only [if_true]
    by_cases c6 : k = 6
    · rw [if_pos c6, if_pos c6]
    · rw [if_neg c6, if_neg c6, if_neg c6]
      by_cases c5 : k = 5
      · rw [if_pos c5, if_pos c5]
      · rw [if_neg c5, if_neg c5, if_neg c5]
  · rw [if_neg c0, if_neg c0, if_neg c0, if_neg c0, if_neg c0, if_neg c0]
theorem l2_num (V : SV) : l2V V = num V (minI 999 (V 0 5 + 1)) (V 0 6 + 1) := rfl
theorem num_eq {V W : SV} (h : eqS V W) (a b : Int32) : eqS (num V a b) (num W a b) := eqS_up2 (eqS_up2 h)
theorem num_ok {P : Nat} {V : SV} {a b : Int32} (h : SVok P V) : SVok P (num V a b) := by
  obtain ⟨h1, t, ht, h4⟩ := h
  refine ⟨fun k hk => ?_, t, ht, ?_⟩
  · rw [num_r (by decide), num_r (by decide), num_r (by decide), num_r (by decide)]
    exact h1 k hk
  · rw [num_4]
    exact h4
theorem su_num (f : Int32) (V : SV) (a b : Int32) : suF f (num V a b) = suF f V := by
  unfold suF
  refine foldN_congr fun k x _ => ?_
  unfold suS
  rw [num_r (r := 3) (by decide), num_r (r := 4) (by decide), num_r (r := 1) (by decide), num_r (r := 2) (by decide), num_4]
theorem sc_num (f : Int32) (V : SV) (a b : Int32) : scF f (num V a b) = scF f V := by
  unfold scF
  refine foldN_congr fun k x _ => ?_
  unfold scS
  rw [num_r (by decide), num_r (by decide)]
theorem go_num (f : Int32) (V : SV) (a b : Int32) : goF f (num V a b) = goF f V := by
  unfold goF
  rw [su_num, num_4]
theorem sunR_num (f : Int32) (V : SV) (a b : Int32) : sunR f (num V a b) = sunR f V := by
  unfold sunR
  rw [go_num, sc_num]
theorem fd_num2 (f : Int32) (V : SV) (a b : Int32) : fdV f (num V a b) = num (fdV f V) a b := by
  funext r k
  unfold fdV upr
  by_cases c : r = 3
  · subst c
    rw [if_pos rfl, num_r (by decide), if_pos rfl]
    unfold fdW
    rw [num_r (by decide), num_r (by decide)]
  · rw [if_neg c]
    by_cases c0 : r = 0
    · subst c0
      unfold num up2
      simp only [show ¬ (0 : Nat) = 3 by decide, if_false, if_true]
    · rw [num_r c0, num_r c0, if_neg c]
theorem up4_num (V : SV) (a b x : Int32) : up2 (num V a b) 0 4 x = num (up2 V 0 4 x) a b := by
  funext r k
  unfold num up2
  by_cases c0 : r = 0
  · subst c0
    simp only [if_true]
    by_cases c4 : k = 4
    · subst c4
      simp
    · by_cases c6 : k = 6
      · subst c6
        simp
      · by_cases c5 : k = 5
        · subst c5
          simp
        · simp only [c4, c5, c6, if_false]
  · simp only [c0, if_false]
theorem pass_num (g : Int32) (V : SV) (a b : Int32) : passF g (num V a b) = num (passF g V) a b := by
  funext r k
  by_cases c0 : r = 0
  · subst c0
    unfold passF upr num up2
    simp only [show ¬ (0 : Nat) = 3 by decide, show ¬ (0 : Nat) = 1 by decide, if_false, if_true]
  · rw [num_r c0]
    unfold passF upr pw1 pw3 pwC hrV
    rw [num_r (r := 1) (by decide), num_r (r := 2) (by decide), num_r (r := 3) (by decide), num_r (r := 4) (by decide), num_4, num_r c0]
theorem sun_num2 (f : Int32) (V : SV) (a b : Int32) : sunF f (num V a b) = num (sunF f V) a b := by
  unfold sunF
  rw [go_num, su_num, num_4, fd_num2, up4_num, pass_num]
  split <;> rfl
theorem st_num {f p a b : Int32} : ∀ (n i : Nat) (V : SV), (stV f p n i (num V a b)).1 = (stV f p n i V).1
  | 0, _, _ => rfl
  | n + 1, i, V => by
    unfold stV
    rw [sun_num2, num_4]
    split
    · exact st_num n (i + 1) (sunF f V)
    · rfl
theorem as_num {f w a b : Int32} : ∀ (n : Nat) (V : SV), (asV f w n (num V a b)).1 = (asV f w n V).1
  | 0, _ => rfl
  | n + 1, V => by
    unfold asV
    rw [sun_num2, num_4, sunR_num]
    split
    · split
      · rfl
      · exact as_num n (sunF f V)
    · rfl
theorem pt_num {f p c a b : Int32} : ∀ (n : Nat) (x : Int64) (V : SV), ptF f p c n x (num V a b) = ptF f p c n x V
  | 0, x, V => by unfold ptF; rw [num_4]
  | n + 1, x, V => by
    unfold ptF
    rw [num_4, sun_num2, sun_num2, pt_num n, pt_num n]
theorem em_num {f a b : Int32} : ∀ (n i : Nat) (V : SV), emF f n i (num V a b) = emF f n i V
  | 0, _, _ => rfl
  | n + 1, i, V => by
    unfold emF
    rw [num_4, sun_num2, em_num n]
theorem eqS_em {f : Int32} : ∀ (n i : Nat) {V W : SV}, eqS V W → emF f n i V = emF f n i W
  | 0, _, _, _, _ => rfl
  | n + 1, i, V, W, h => by
    unfold emF
    rw [h 0 4 in04, eqS_em n (i + 1) (eqS_sun h)]
theorem itr_num {f a b : Int32} : ∀ (n : Nat) (V : SV), itr f n (num V a b) = num (itr f n V) a b
  | 0, _ => rfl
  | n + 1, V => by
    unfold itr
    rw [itr_num n, sun_num2]
