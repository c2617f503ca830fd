/-! ===== the reference: days and the other acts ===== -/
def ROK (P : Nat) (I : IM) : Prop := P ≤ 5 ∧ I 311 25 = nI P ∧ rng (I 325 0) 9 ∧ rng (I 311 32) 40 ∧ rng (I 328 51) 60 ∧ SVok P (rv I)
def kR (I : IM) : IM := kpR I (I 311 32).toNatClampNeg
def pR (I : IM) : IM := rp (pdR I (I 328 51).toNatClampNeg (goF (I 325 0) (rv I)) (bcI (hbF (sunF (I 325 0) (rv I) 3) (sunF (I 325 0) (rv I) 4) 0)) (sunF (I 325 0) (rv I) 0 4)) (l2V (sunF (I 325 0) (rv I)))
def dR (I : IM) : IM := pR (kR I)
theorem kR_eq (I : IM) : kR I = kpR I (I 311 32).toNatClampNeg := rfl
theorem pR_eq (I : IM) : pR I = rp (pdR I (I 328 51).toNatClampNeg (goF (I 325 0) (rv I)) (bcI (hbF (sunF (I 325 0) (rv I) 3) (sunF (I 325 0) (rv I) 4) 0)) (sunF (I 325 0) (rv I) 0 4)) (l2V (sunF (I 325 0) (rv I))) := rfl
theorem f10 {f : Int32} (h : rng f 9) : rng f 10 := (f_1 h).1
theorem kpR_ne {I : IM} {A b : Nat} (h : b ≠ 330) (h2 : b ≠ 311) : kpR I A b = I b := by
  unfold kpR
  split
  · rw [up2_ne h2, cpR_ne h, up2_ne h2, shR_ne h]
  · rw [up2_ne h2, cpR_ne h]
theorem kpR_311 {I : IM} {A k : Nat} (h : k ≠ 32) : kpR I A 311 k = I 311 k := by
  unfold kpR
  split
  · rw [up2_nk h, cpR_ne (by decide), up2_nk h, shR_ne (by decide)]
  · rw [up2_nk h, cpR_ne (by decide)]
theorem kpR_32 (I : IM) (A : Nat) : kpR I A 311 32 = nI (if A = 40 then 40 else A + 1) := by
  unfold kpR
  split
  · rw [up2_sa]
  · rw [up2_sa]
theorem kR_ne {I : IM} {b : Nat} (h : b ≠ 330) (h2 : b ≠ 311) : kR I b = I b := kpR_ne h h2
theorem rv_congr {I J : IM} (h : J 328 = I 328) : rv J = rv I := by
  funext r k
  unfold rv
  rw [h]
theorem kR_rv (I : IM) : rv (kR I) = rv I := rv_congr (kR_ne (by decide) (by decide))
theorem ROK.kR {P : Nat} {I : IM} (h : ROK P I) : ROK P (kR I) := by
  obtain ⟨h1, h2, h3, h4, h5, h6⟩ := h
  refine ⟨h1, ?_, ?_, ?_, ?_, ?_⟩
  · rw [kR_eq]
    rw [kpR_311 (by decide)]
    exact h2
  · rw [kR_ne (by decide) (by decide)]
    exact h3
  · rw [kR_eq]
    rw [kpR_32]
    obtain ⟨A, hA, e⟩ := h4
    rw [e, nI_clamp (by omega)]
    exact ⟨_, by split <;> omega, rfl⟩
  · rw [kR_ne (by decide) (by decide)]
    exact h5
  · rw [kR_rv]
    exact h6
theorem pdR_ne {I : IM} {L b : Nat} {x y z : Int32} (h : b ≠ 328) : pdR I L x y z b = I b := by
  unfold pdR wr3
  split
  · rw [up2_ne h, up2_ne h, up2_ne h, up2_ne h, up2_ne h, slR_ne h]
  · rw [up2_ne h, up2_ne h, up2_ne h, up2_ne h]
theorem pdR_51 (I : IM) (L : Nat) (x y z : Int32) : pdR I L x y z 328 51 = nI (if L = 60 then 60 else L + 1) := by
  unfold pdR
  split
  · rw [up2_sa]
  · rw [up2_sa]
theorem pR_ne {I : IM} {b : Nat} (h : b ≠ 328) : pR I b = I b := by
  unfold pR
  rw [rp_ne h, pdR_ne h]
theorem ROK.pR {P : Nat} {I : IM} (h : ROK P I) : ROK P (pR I) := by
  obtain ⟨h1, h2, h3, h4, h5, h6⟩ := h
  refine ⟨h1, ?_, ?_, ?_, ?_, ?_⟩
  · rw [pR_ne (by decide)]; exact h2
  · rw [pR_ne (by decide)]; exact h3
  · rw [pR_ne (by decide)]; exact h4
  · rw [pR_eq]
    rw [rp_hi (by decide), pdR_51]
    obtain ⟨L, hL, e⟩ := h5
    rw [e, nI_clamp (by omega)]
    exact ⟨_, by split <;> omega, rfl⟩
  · rw [pR_eq]
    exact (l2_ok (sun_ok h1 h6 (f10 h3))).congr rv_rp.symm
theorem ROK.dR {P : Nat} {I : IM} (h : ROK P I) : ROK P (dR I) := h.kR.pR
def rfR (I : IM) (w : Int32) : IM := up2 I 329 w.toNatClampNeg (I 329 w.toNatClampNeg + 1)
def wDR (P : Nat) (day n : Int32) : Int32 := if P = 0 then 0 else if ¬ (¬ n < 1 ∧ ¬ 60 < n) then 1 else if 999 < day + n then 4 else -1
section
variable {E : EV} {d : Nat} {G : GD} {I : IM} {P : Nat}
set_option maxRecDepth 100000 in
set_option maxHeartbeats 4000000 in
theorem r_kR (hG : GTs G) (h : ROK P I) : Run E d mX11_keep [.ref 311] (0, 0) G I none G (kR I) := by
  obtain ⟨A, hA, e⟩ := h.2.2.2.1
  have := r_keep (E := E) (d := d) hG hA e
  unfold kR
  rw [e, nI_clamp (by omega)]
  exact this
set_option maxRecDepth 100000 in
set_option maxHeartbeats 4000000 in
theorem r_pR (hG : GTs G) (h : ROK P I) : Run E (d + 6) mX11_passDay [.ref 311] (0, 0) G I none G (pR I) := by
  obtain ⟨h1, h2, h3, h4, ⟨L, hL, e⟩, h6⟩ := h
  have := r_passDay (E := E) (d := d) hG h1 h2 (f10 h3) hL e h6
  rw [rp_rv] at this
  unfold pR
  rw [e, nI_clamp (by omega)]
  exact this
set_option maxRecDepth 100000 in
set_option maxHeartbeats 4000000 in
theorem r_areDays (hG : GTs G) (n : Int32) : Run E (d + 1) mX11_areDays [.ref 311, .int n] (0, 0) G I (some (.int (bInt ((¬ n < 1 ∧ ¬ 60 < n) ∧ ¬ 999 < I 328 50 + n)))) G I := by
  refine Ct.run okX11_areDays TX11_areDays [] 60 rfl rfl ?_
  simp only [↓tX11_areDays, ↓opPush, ↓opILoad, ↓opLLoad, ↓opALoad, ↓opIStore, ↓opAStore, ↓opLStore, ↓opIInc, ↓opI1, ↓opII, ↓opID, ↓opLL, ↓opLD, ↓opLI, ↓opI2L, ↓opL2I, ↓opLcmp, ↓opDup, ↓opDupX1, ↓opDup2, ↓opPop, ↓opIf1, ↓opIf2, ↓opGoto, ↓opIRet, ↓opZRet, ↓opLRet, ↓opVRet, ↓opGetI, ↓opGetL, ↓opGetR, ↓opPutI, ↓opPutZ, ↓opPutL, ↓opPutR, ↓opIALoad, ↓opBALoad, ↓opZALoad, ↓opLALoad, ↓opAALoad, ↓opIAStore, ↓opZAStore, ↓opLAStore, ↓opALen, ↓opGetS, ↓opGetC, ↓opStrV, ↓opStrC, ↓opCallV, ↓opCallS, ↓opSw, ↓opCopy, ↓opCallT, ↓opBRet, ↓opObjI, ↓opNew, ↓opNewA, ↓opANew, ↓opAAStore, ↓opMNew, ↓opCallI, ↓wp_s, ↓wp_0, ↓popI_c, ↓popL_c, ↓popR_c, ↓pop1_i, ↓pop1_r, ↓ldI_0, ↓ldI_s, ↓ldL_0, ↓ldL_s, ↓ldR_0, ↓ldR_s, ↓stL_0, ↓stL_s, ↓tk_0, ↓tk_s, ↓Kc_s, ↓Kc_n, isS_0, isS_s, asP_c, gi_0, gi_s, noL_0, noL_s, isW_n, isW_i, isW_r, rcv_c, rcvT_c, swK_0, swK_s, catS, or_false, false_or, not_false_eq_true, not_true_eq_false, true_implies, false_implies, and_true, true_and, ↓reduceIte, Nat.reduceAdd, Nat.reduceLT, Nat.reduceLeDiff, Nat.reduceEqDiff, Nat.reduceSub, forall_const, eq_self, and_self, or_true, true_or, lve_i, lve_r, lve_l, lve_0, List.replicate_succ, List.replicate_zero, mX, mX11_areDays]
  refine ⟨_, _, _, _, rfl, r_in _ _ _, ?_⟩
  simp only [↓tX11_areDays, ↓opPush, ↓opILoad, ↓opLLoad, ↓opALoad, ↓opIStore, ↓opAStore, ↓opLStore, ↓opIInc, ↓opI1, ↓opII, ↓opID, ↓opLL, ↓opLD, ↓opLI, ↓opI2L, ↓opL2I, ↓opLcmp, ↓opDup, ↓opDupX1, ↓opDup2, ↓opPop, ↓opIf1, ↓opIf2, ↓opGoto, ↓opIRet, ↓opZRet, ↓opLRet, ↓opVRet, ↓opGetI, ↓opGetL, ↓opGetR, ↓opPutI, ↓opPutZ, ↓opPutL, ↓opPutR, ↓opIALoad, ↓opBALoad, ↓opZALoad, ↓opLALoad, ↓opAALoad, ↓opIAStore, ↓opZAStore, ↓opLAStore, ↓opALen, ↓opGetS, ↓opGetC, ↓opStrV, ↓opStrC, ↓opCallV, ↓opCallS, ↓opSw, ↓opCopy, ↓opCallT, ↓opBRet, ↓opObjI, ↓opNew, ↓opNewA, ↓opANew, ↓opAAStore, ↓opMNew, ↓opCallI, ↓wp_s, ↓wp_0, ↓popI_c, ↓popL_c, ↓popR_c, ↓pop1_i, ↓pop1_r, ↓ldI_0, ↓ldI_s, ↓ldL_0, ↓ldL_s, ↓ldR_0, ↓ldR_s, ↓stL_0, ↓stL_s, ↓tk_0, ↓tk_s, ↓Kc_s, ↓Kc_n, isS_0, isS_s, asP_c, gi_0, gi_s, noL_0, noL_s, isW_n, isW_i, isW_r, rcv_c, rcvT_c, swK_0, swK_s, catS, or_false, false_or, not_false_eq_true, not_true_eq_false, true_implies, false_implies, and_true, true_and, ↓reduceIte, Nat.reduceAdd, Nat.reduceLT, Nat.reduceLeDiff, Nat.reduceEqDiff, Nat.reduceSub, forall_const, eq_self, and_self, or_true, true_or, bInt_0, hG.fo311, ↓asP_h hG.fp311_27, hG.fo328, hG.fa328, hG.fl328, vpL (i := 50) (n := 232) (by decide), show (50 : Int32).toNatClampNeg = 50 by decide]
  exact ⟨fun c => by rw [bInt_f (fun z => c z.1)], fun c => ⟨fun c2 => by rw [bInt_f (fun z => z.2 c2)], fun c2 => by rw [bInt_t ⟨Decidable.not_not.mp c, c2⟩]⟩⟩
theorem wDR_r (P : Nat) (day n : Int32) : wDR P day n = -1 ∨ ∃ k, k < 5 ∧ wDR P day n = nI k := by
  unfold wDR
  split
  · exact Or.inr ⟨0, by decide, rfl⟩
  · split
    · exact Or.inr ⟨1, by decide, rfl⟩
    · split
      · exact Or.inr ⟨4, by decide, rfl⟩
      · exact Or.inl rfl
set_option maxRecDepth 100000 in
set_option maxHeartbeats 4000000 in
theorem r_days (hG : GTs G) (hR : ROK P I) (n : Int32) : Run E (d + 7) mX11_days [.ref 311, .int n] (0, 0) G I (some (.int (if wDR P (I 328 50) n = -1 then itN dR n.toNatClampNeg I 328 50 else -1))) G (if wDR P (I 328 50) n = -1 then itN dR n.toNatClampNeg I else rfR I (wDR P (I 328 50) n)) := by
  have go : ∀ Q : QT, (Q (some (.int (if wDR P (I 328 50) n = -1 then itN dR n.toNatClampNeg I 328 50 else -1))) G (if wDR P (I 328 50) n = -1 then itN dR n.toNatClampNeg I else rfR I (wDR P (I 328 50) n))) → Ex E (d + 7) mX11_days Q 39 [some (.ref 311), some (.int n), none] [.int (wDR P (I 328 50) n), .ref 311] (0, 0) G I := by
    intro Q hQ
    by_cases c : wDR P (I 328 50) n = -1
    · rw [if_pos c, if_pos c] at hQ
      have hn : ¬ n < 1 ∧ ¬ 60 < n := by
        unfold wDR at c
        split at c
        · exact absurd c (by decide)
        · split at c
          · exact absurd c (by decide)
          · rename_i h
            exact Decidable.not_not.mp h
      obtain ⟨m, hm1, hm2, rfl⟩ := le60 hn.1 (fa_of_nlt hn.2)
      rw [nI_clamp (show m < 2 ^ 31 by omega)] at hQ
      have key : ∀ (k i : Nat) (J : IM), i + k = m → ROK P J → itN dR k J = itN dR m I → Ex E (d + 7) mX11_days Q 49 [some (.ref 311), some (.int (nI m)), some (.int (nI i))] [] (0, 0) G J := by
        intro k
        induction k with
        | zero =>
          intro i J hi hJ he
          refine Ex.run TX11_days [49] 60 ?_
          simp only [↓tX11_days, ↓opPush, ↓opILoad, ↓opLLoad, ↓opALoad, ↓opIStore, ↓opAStore, ↓opLStore, ↓opIInc, ↓opI1, ↓opII, ↓opID, ↓opLL, ↓opLD, ↓opLI, ↓opI2L, ↓opL2I, ↓opLcmp, ↓opDup, ↓opDupX1, ↓opDup2, ↓opPop, ↓opIf1, ↓opIf2, ↓opGoto, ↓opIRet, ↓opZRet, ↓opLRet, ↓opVRet, ↓opGetI, ↓opGetL, ↓opGetR, ↓opPutI, ↓opPutZ, ↓opPutL, ↓opPutR, ↓opIALoad, ↓opBALoad, ↓opZALoad, ↓opLALoad, ↓opAALoad, ↓opIAStore, ↓opZAStore, ↓opLAStore, ↓opALen, ↓opGetS, ↓opGetC, ↓opStrV, ↓opStrC, ↓opCallV, ↓opCallS, ↓opSw, ↓opCopy, ↓opCallT, ↓opBRet, ↓opObjI, ↓opNew, ↓opNewA, ↓opANew, ↓opAAStore, ↓opMNew, ↓opCallI, ↓wp_s, ↓wp_0, ↓popI_c, ↓popL_c, ↓popR_c, ↓pop1_i, ↓pop1_r, ↓ldI_0, ↓ldI_s, ↓ldL_0, ↓ldL_s, ↓ldR_0, ↓ldR_s, ↓stL_0, ↓stL_s, ↓tk_0, ↓tk_s, ↓Kc_s, ↓Kc_n, isS_0, isS_s, asP_c, gi_0, gi_s, noL_0, noL_s, isW_n, isW_i, isW_r, rcv_c, rcvT_c, swK_0, swK_s, catS, or_false, false_or, not_false_eq_true, not_true_eq_false, true_implies, false_implies, and_true, true_and, ↓reduceIte, Nat.reduceAdd, Nat.reduceLT, Nat.reduceLeDiff, Nat.reduceEqDiff, Nat.reduceSub, forall_const, eq_self, and_self, or_true, true_or, show i = m by omega, Int32.le_refl, hG.fo311, ↓asP_h hG.fp311_27, hG.fo328, hG.fa328, hG.fl328, vpL (i := 50) (n := 232) (by decide), show (50 : Int32).toNatClampNeg = 50 by decide]
          have he : J = itN dR m I := he
          rw [he]
          exact hQ
        | succ k ih =>
          intro i J hi hJ he
          refine Ex.run TX11_days [49] 60 ?_
          simp only [↓tX11_days, ↓opPush, ↓opILoad, ↓opLLoad, ↓opALoad, ↓opIStore, ↓opAStore, ↓opLStore, ↓opIInc, ↓opI1, ↓opII, ↓opID, ↓opLL, ↓opLD, ↓opLI, ↓opI2L, ↓opL2I, ↓opLcmp, ↓opDup, ↓opDupX1, ↓opDup2, ↓opPop, ↓opIf1, ↓opIf2, ↓opGoto, ↓opIRet, ↓opZRet, ↓opLRet, ↓opVRet, ↓opGetI, ↓opGetL, ↓opGetR, ↓opPutI, ↓opPutZ, ↓opPutL, ↓opPutR, ↓opIALoad, ↓opBALoad, ↓opZALoad, ↓opLALoad, ↓opAALoad, ↓opIAStore, ↓opZAStore, ↓opLAStore, ↓opALen, ↓opGetS, ↓opGetC, ↓opStrV, ↓opStrC, ↓opCallV, ↓opCallS, ↓opSw, ↓opCopy, ↓opCallT, ↓opBRet, ↓opObjI, ↓opNew, ↓opNewA, ↓opANew, ↓opAAStore, ↓opMNew, ↓opCallI, ↓wp_s, ↓wp_0, ↓popI_c, ↓popL_c, ↓popR_c, ↓pop1_i, ↓pop1_r, ↓ldI_0, ↓ldI_s, ↓ldL_0, ↓ldL_s, ↓ldR_0, ↓ldR_s, ↓stL_0, ↓stL_s, ↓tk_0, ↓tk_s, ↓Kc_s, ↓Kc_n, isS_0, isS_s, asP_c, gi_0, gi_s, noL_0, noL_s, isW_n, isW_i, isW_r, rcv_c, rcvT_c, swK_0, swK_s, catS, or_false, false_or, not_false_eq_true, not_true_eq_false, true_implies, false_implies, and_true, true_and, ↓reduceIte, Nat.reduceAdd, Nat.reduceLT, Nat.reduceLeDiff, Nat.reduceEqDiff, Nat.reduceSub, forall_const, eq_self, and_self, or_true, true_or, eq_false (nI_ge (a := i) (b := m) (by omega) (by omega)), hG.fo311, ↓asP_h hG.fp311_1, hG.fo312, hG.fa312, hG.fl312, ↓asP_h hG.fp311_6, hG.fo313, hG.fa313, hG.fl313, ↓asP_h hG.fp311_7, hG.fo314, hG.fa314, hG.fl314, ↓asP_h hG.fp311_8, hG.fo315, hG.fa315, hG.fl315, ↓asP_h hG.fp311_9, hG.fo316, hG.fa316, hG.fl316, ↓asP_h hG.fp311_10, hG.fo317, hG.fa317, hG.fl317, ↓asP_h hG.fp311_11, hG.fo318, hG.fa318, hG.fl318, ↓asP_h hG.fp311_12, hG.fo319, hG.fa319, hG.fl319, ↓asP_h hG.fp311_15, hG.fo320, hG.fa320, hG.fl320, ↓asP_h hG.fp311_16, hG.fo321, hG.fa321, hG.fl321, ↓asP_h hG.fp311_17, hG.fo322, hG.fa322, hG.fl322, ↓asP_h hG.fp311_18, hG.fo323, hG.fa323, hG.fl323, ↓asP_h hG.fp311_19, hG.fo324, hG.fa324, hG.fl324, ↓asP_h hG.fp311_22, hG.fo325, hG.fa325, hG.fl325, ↓asP_h hG.fp311_23, hG.fo326, hG.fa326, hG.fl326, ↓asP_h hG.fp311_24, hG.fo327, hG.fa327, hG.fl327, ↓asP_h hG.fp311_27, hG.fo328, hG.fa328, hG.fl328, ↓asP_h hG.fp311_28, hG.fo329, hG.fa329, hG.fl329, ↓asP_h hG.fp311_31, hG.fo330, hG.fa330, hG.fl330, ↓asP_h hG.fp311_34, hG.fo331, hG.fa331, hG.fl331, ↓asP_h hG.fp311_37, hG.fo332, hG.fa332, hG.fl332, ↓asP_h hG.fp311_38, hG.fo333, hG.fa333, hG.fl333, ↓asP_h hG.fp311_39, hG.fo334, hG.fl334, ↓asP_h hG.fp311_41, hG.fo335, hG.fa335, hG.fl335, ↓asP_h hG.fp311_42, hG.fo336, hG.fa336, hG.fl336, ↓asP_h hG.fp311_43, hG.fo337, hG.fa337, hG.fl337]
          refine ⟨_, _, _, _, rfl, r_kR hG hJ, ?_⟩
          simp only [↓tX11_days, ↓opPush, ↓opILoad, ↓opLLoad, ↓opALoad, ↓opIStore, ↓opAStore, ↓opLStore, ↓opIInc, ↓opI1, ↓opII, ↓opID, ↓opLL, ↓opLD, ↓opLI, ↓opI2L, ↓opL2I, ↓opLcmp, ↓opDup, ↓opDupX1, ↓opDup2, ↓opPop, ↓opIf1, ↓opIf2, ↓opGoto, ↓opIRet, ↓opZRet, ↓opLRet, ↓opVRet, ↓opGetI, ↓opGetL, ↓opGetR, ↓opPutI, ↓opPutZ, ↓opPutL, ↓opPutR, ↓opIALoad, ↓opBALoad, ↓opZALoad, ↓opLALoad, ↓opAALoad, ↓opIAStore, ↓opZAStore, ↓opLAStore, ↓opALen, ↓opGetS, ↓opGetC, ↓opStrV, ↓opStrC, ↓opCallV, ↓opCallS, ↓opSw, ↓opCopy, ↓opCallT, ↓opBRet, ↓opObjI, ↓opNew, ↓opNewA, ↓opANew, ↓opAAStore, ↓opMNew, ↓opCallI, ↓wp_s, ↓wp_0, ↓popI_c, ↓popL_c, ↓popR_c, ↓pop1_i, ↓pop1_r, ↓ldI_0, ↓ldI_s, ↓ldL_0, ↓ldL_s, ↓ldR_0, ↓ldR_s, ↓stL_0, ↓stL_s, ↓tk_0, ↓tk_s, ↓Kc_s, ↓Kc_n, isS_0, isS_s, asP_c, gi_0, gi_s, noL_0, noL_s, isW_n, isW_i, isW_r, rcv_c, rcvT_c, swK_0, swK_s, catS, or_false, false_or, not_false_eq_true, not_true_eq_false, true_implies, false_implies, and_true, true_and, ↓reduceIte, Nat.reduceAdd, Nat.reduceLT, Nat.reduceLeDiff, Nat.reduceEqDiff, Nat.reduceSub, forall_const, eq_self, and_self, or_true, true_or, hG.fo311, ↓asP_h hG.fp311_1, hG.fo312, hG.fa312, hG.fl312, ↓asP_h hG.fp311_6, hG.fo313, hG.fa313, hG.fl313, ↓asP_h hG.fp311_7, hG.fo314, hG.fa314, hG.fl314, ↓asP_h hG.fp311_8, hG.fo315, hG.fa315, hG.fl315, ↓asP_h hG.fp311_9, hG.fo316, hG.fa316, hG.fl316, ↓asP_h hG.fp311_10, hG.fo317, hG.fa317, hG.fl317, ↓asP_h hG.fp311_11, hG.fo318, hG.fa318, hG.fl318, ↓asP_h hG.fp311_12, hG.fo319, hG.fa319, hG.fl319, ↓asP_h hG.fp311_15, hG.fo320, hG.fa320, hG.fl320, ↓asP_h hG.fp311_16, hG.fo321, hG.fa321, hG.fl321, ↓asP_h hG.fp311_17, hG.fo322, hG.fa322, hG.fl322, ↓asP_h hG.fp311_18, hG.fo323, hG.fa323, hG.fl323, ↓asP_h hG.fp311_19, hG.fo324, hG.fa324, hG.fl324, ↓asP_h hG.fp311_22, hG.fo325, hG.fa325, hG.fl325, ↓asP_h hG.fp311_23, hG.fo326, hG.fa326, hG.fl326, ↓asP_h hG.fp311_24, hG.fo327, hG.fa327, hG.fl327, ↓asP_h hG.fp311_27, hG.fo328, hG.fa328, hG.fl328, ↓asP_h hG.fp311_28, hG.fo329, hG.fa329, hG.fl329, ↓asP_h hG.fp311_31, hG.fo330, hG.fa330, hG.fl330, ↓asP_h hG.fp311_34, hG.fo331, hG.fa331, hG.fl331, ↓asP_h hG.fp311_37, hG.fo332, hG.fa332, hG.fl332, ↓asP_h hG.fp311_38, hG.fo333, hG.fa333, hG.fl333, ↓asP_h hG.fp311_39, hG.fo334, hG.fl334, ↓asP_h hG.fp311_41, hG.fo335, hG.fa335, hG.fl335, ↓asP_h hG.fp311_42, hG.fo336, hG.fa336, hG.fl336, ↓asP_h hG.fp311_43, hG.fo337, hG.fa337, hG.fl337]
          refine ⟨_, _, _, _, rfl, r_pR hG hJ.kR, ?_⟩
          simp only [↓tX11_days, ↓opPush, ↓opILoad, ↓opLLoad, ↓opALoad, ↓opIStore, ↓opAStore, ↓opLStore, ↓opIInc, ↓opI1, ↓opII, ↓opID, ↓opLL, ↓opLD, ↓opLI, ↓opI2L, ↓opL2I, ↓opLcmp, ↓opDup, ↓opDupX1, ↓opDup2, ↓opPop, ↓opIf1, ↓opIf2, ↓opGoto, ↓opIRet, ↓opZRet, ↓opLRet, ↓opVRet, ↓opGetI, ↓opGetL, ↓opGetR, ↓opPutI, ↓opPutZ, ↓opPutL, ↓opPutR, ↓opIALoad, ↓opBALoad, ↓opZALoad, ↓opLALoad, ↓opAALoad, ↓opIAStore, ↓opZAStore, ↓opLAStore, ↓opALen, ↓opGetS, ↓opGetC, ↓opStrV, ↓opStrC, ↓opCallV, ↓opCallS, ↓opSw, ↓opCopy, ↓opCallT, ↓opBRet, ↓opObjI, ↓opNew, ↓opNewA, ↓opANew, ↓opAAStore, ↓opMNew, ↓opCallI, ↓wp_s, ↓wp_0, ↓popI_c, ↓popL_c, ↓popR_c, ↓pop1_i, ↓pop1_r, ↓ldI_0, ↓ldI_s, ↓ldL_0, ↓ldL_s, ↓ldR_0, ↓ldR_s, ↓stL_0, ↓stL_s, ↓tk_0, ↓tk_s, ↓Kc_s, ↓Kc_n, isS_0, isS_s, asP_c, gi_0, gi_s, noL_0, noL_s, isW_n, isW_i, isW_r, rcv_c, rcvT_c, swK_0, swK_s, catS, or_false, false_or, not_false_eq_true, not_true_eq_false, true_implies, false_implies, and_true, true_and, ↓reduceIte, Nat.reduceAdd, Nat.reduceLT, Nat.reduceLeDiff, Nat.reduceEqDiff, Nat.reduceSub, forall_const, eq_self, and_self, or_true, true_or, nI_1]
          exact ih (i + 1) _ (by omega) hJ.dR he
      have ir := r_isRefused (E := E) (d := d + 6) (I := I) hG (wDR P (I 328 50) (nI m)) (wDR_r _ _ _)
      rw [bInt_f (fun z => z c), if_pos c] at ir
      refine Ex.run TX11_days [49] 60 ?_
      simp only [↓tX11_days, ↓opPush, ↓opILoad, ↓opLLoad, ↓opALoad, ↓opIStore, ↓opAStore, ↓opLStore, ↓opIInc, ↓opI1, ↓opII, ↓opID, ↓opLL, ↓opLD, ↓opLI, ↓opI2L, ↓opL2I, ↓opLcmp, ↓opDup, ↓opDupX1, ↓opDup2, ↓opPop, ↓opIf1, ↓opIf2, ↓opGoto, ↓opIRet, ↓opZRet, ↓opLRet, ↓opVRet, ↓opGetI, ↓opGetL, ↓opGetR, ↓opPutI, ↓opPutZ, ↓opPutL, ↓opPutR, ↓opIALoad, ↓opBALoad, ↓opZALoad, ↓opLALoad, ↓opAALoad, ↓opIAStore, ↓opZAStore, ↓opLAStore, ↓opALen, ↓opGetS, ↓opGetC, ↓opStrV, ↓opStrC, ↓opCallV, ↓opCallS, ↓opSw, ↓opCopy, ↓opCallT, ↓opBRet, ↓opObjI, ↓opNew, ↓opNewA, ↓opANew, ↓opAAStore, ↓opMNew, ↓opCallI, ↓wp_s, ↓wp_0, ↓popI_c, ↓popL_c, ↓popR_c, ↓pop1_i, ↓pop1_r, ↓ldI_0, ↓ldI_s, ↓ldL_0, ↓ldL_s, ↓ldR_0, ↓ldR_s, ↓stL_0, ↓stL_s, ↓tk_0, ↓tk_s, ↓Kc_s, ↓Kc_n, isS_0, isS_s, asP_c, gi_0, gi_s, noL_0, noL_s, isW_n, isW_i, isW_r, rcv_c, rcvT_c, swK_0, swK_s, catS, or_false, false_or, not_false_eq_true, not_true_eq_false, true_implies, false_implies, and_true, true_and, ↓reduceIte, Nat.reduceAdd, Nat.reduceLT, Nat.reduceLeDiff, Nat.reduceEqDiff, Nat.reduceSub, forall_const, eq_self, and_self, or_true, true_or, hG.fo311, ↓asP_h hG.fp311_1, hG.fo312, hG.fa312, hG.fl312, ↓asP_h hG.fp311_6, hG.fo313, hG.fa313, hG.fl313, ↓asP_h hG.fp311_7, hG.fo314, hG.fa314, hG.fl314, ↓asP_h hG.fp311_8, hG.fo315, hG.fa315, hG.fl315, ↓asP_h hG.fp311_9, hG.fo316, hG.fa316, hG.fl316, ↓asP_h hG.fp311_10, hG.fo317, hG.fa317, hG.fl317, ↓asP_h hG.fp311_11, hG.fo318, hG.fa318, hG.fl318, ↓asP_h hG.fp311_12, hG.fo319, hG.fa319, hG.fl319, ↓asP_h hG.fp311_15, hG.fo320, hG.fa320, hG.fl320, ↓asP_h hG.fp311_16, hG.fo321, hG.fa321, hG.fl321, ↓asP_h hG.fp311_17, hG.fo322, hG.fa322, hG.fl322, ↓asP_h hG.fp311_18, hG.fo323, hG.fa323, hG.fl323, ↓asP_h hG.fp311_19, hG.fo324, hG.fa324, hG.fl324, ↓asP_h hG.fp311_22, hG.fo325, hG.fa325, hG.fl325, ↓asP_h hG.fp311_23, hG.fo326, hG.fa326, hG.fl326, ↓asP_h hG.fp311_24, hG.fo327, hG.fa327, hG.fl327, ↓asP_h hG.fp311_27, hG.fo328, hG.fa328, hG.fl328, ↓asP_h hG.fp311_28, hG.fo329, hG.fa329, hG.fl329, ↓asP_h hG.fp311_31, hG.fo330, hG.fa330, hG.fl330, ↓asP_h hG.fp311_34, hG.fo331, hG.fa331, hG.fl331, ↓asP_h hG.fp311_37, hG.fo332, hG.fa332, hG.fl332, ↓asP_h hG.fp311_38, hG.fo333, hG.fa333, hG.fl333, ↓asP_h hG.fp311_39, hG.fo334, hG.fl334, ↓asP_h hG.fp311_41, hG.fo335, hG.fa335, hG.fl335, ↓asP_h hG.fp311_42, hG.fo336, hG.fa336, hG.fl336, ↓asP_h hG.fp311_43, hG.fo337, hG.fa337, hG.fl337]
      refine ⟨_, _, _, _, rfl, ir, ?_⟩
      simp only [↓tX11_days, ↓opPush, ↓opILoad, ↓opLLoad, ↓opALoad, ↓opIStore, ↓opAStore, ↓opLStore, ↓opIInc, ↓opI1, ↓opII, ↓opID, ↓opLL, ↓opLD, ↓opLI, ↓opI2L, ↓opL2I, ↓opLcmp, ↓opDup, ↓opDupX1, ↓opDup2, ↓opPop, ↓opIf1, ↓opIf2, ↓opGoto, ↓opIRet, ↓opZRet, ↓opLRet, ↓opVRet, ↓opGetI, ↓opGetL, ↓opGetR, ↓opPutI, ↓opPutZ, ↓opPutL, ↓opPutR, ↓opIALoad, ↓opBALoad, ↓opZALoad, ↓opLALoad, ↓opAALoad, ↓opIAStore, ↓opZAStore, ↓opLAStore, ↓opALen, ↓opGetS, ↓opGetC, ↓opStrV, ↓opStrC, ↓opCallV, ↓opCallS, ↓opSw, ↓opCopy, ↓opCallT, ↓opBRet, ↓opObjI, ↓opNew, ↓opNewA, ↓opANew, ↓opAAStore, ↓opMNew, ↓opCallI, ↓wp_s, ↓wp_0, ↓popI_c, ↓popL_c, ↓popR_c, ↓pop1_i, ↓pop1_r, ↓ldI_0, ↓ldI_s, ↓ldL_0, ↓ldL_s, ↓ldR_0, ↓ldR_s, ↓stL_0, ↓stL_s, ↓tk_0, ↓tk_s, ↓Kc_s, ↓Kc_n, isS_0, isS_s, asP_c, gi_0, gi_s, noL_0, noL_s, isW_n, isW_i, isW_r, rcv_c, rcvT_c, swK_0, swK_s, catS, or_false, false_or, not_false_eq_true, not_true_eq_false, true_implies, false_implies, and_true, true_and, ↓reduceIte, Nat.reduceAdd, Nat.reduceLT, Nat.reduceLeDiff, Nat.reduceEqDiff, Nat.reduceSub, forall_const, eq_self, and_self, or_true, true_or]
      exact key m 0 I (by omega) hR rfl
    · rw [if_neg c, if_neg c] at hQ
      have ir := r_isRefused (E := E) (d := d + 6) (I := I) hG (wDR P (I 328 50) n) (wDR_r _ _ _)
      rw [bInt_t c, if_neg c] at ir
      refine Ex.run TX11_days [49] 60 ?_
      simp only [↓tX11_days, ↓opPush, ↓opILoad, ↓opLLoad, ↓opALoad, ↓opIStore, ↓opAStore, ↓opLStore, ↓opIInc, ↓opI1, ↓opII, ↓opID, ↓opLL, ↓opLD, ↓opLI, ↓opI2L, ↓opL2I, ↓opLcmp, ↓opDup, ↓opDupX1, ↓opDup2, ↓opPop, ↓opIf1, ↓opIf2, ↓opGoto, ↓opIRet, ↓opZRet, ↓opLRet, ↓opVRet, ↓opGetI, ↓opGetL, ↓opGetR, ↓opPutI, ↓opPutZ, ↓opPutL, ↓opPutR, ↓opIALoad, ↓opBALoad, ↓opZALoad, ↓opLALoad, ↓opAALoad, ↓opIAStore, ↓opZAStore, ↓opLAStore, ↓opALen, ↓opGetS, ↓opGetC, ↓opStrV, ↓opStrC, ↓opCallV, ↓opCallS, ↓opSw, ↓opCopy, ↓opCallT, ↓opBRet, ↓opObjI, ↓opNew, ↓opNewA, ↓opANew, ↓opAAStore, ↓opMNew, ↓opCallI, ↓wp_s, ↓wp_0, ↓popI_c, ↓popL_c, ↓popR_c, ↓pop1_i, ↓pop1_r, ↓ldI_0, ↓ldI_s, ↓ldL_0, ↓ldL_s, ↓ldR_0, ↓ldR_s, ↓stL_0, ↓stL_s, ↓tk_0, ↓tk_s, ↓Kc_s, ↓Kc_n, isS_0, isS_s, asP_c, gi_0, gi_s, noL_0, noL_s, isW_n, isW_i, isW_r, rcv_c, rcvT_c, swK_0, swK_s, catS, or_false, false_or, not_false_eq_true, not_true_eq_false, true_implies, false_implies, and_true, true_and, ↓reduceIte, Nat.reduceAdd, Nat.reduceLT, Nat.reduceLeDiff, Nat.reduceEqDiff, Nat.reduceSub, forall_const, eq_self, and_self, or_true, true_or, hG.fo311, ↓asP_h hG.fp311_1, hG.fo312, hG.fa312, hG.fl312, ↓asP_h hG.fp311_6, hG.fo313, hG.fa313, hG.fl313, ↓asP_h hG.fp311_7, hG.fo314, hG.fa314, hG.fl314, ↓asP_h hG.fp311_8, hG.fo315, hG.fa315, hG.fl315, ↓asP_h hG.fp311_9, hG.fo316, hG.fa316, hG.fl316, ↓asP_h hG.fp311_10, hG.fo317, hG.fa317, hG.fl317, ↓asP_h hG.fp311_11, hG.fo318, hG.fa318, hG.fl318, ↓asP_h hG.fp311_12, hG.fo319, hG.fa319, hG.fl319, ↓asP_h hG.fp311_15, hG.fo320, hG.fa320, hG.fl320, ↓asP_h hG.fp311_16, hG.fo321, hG.fa321, hG.fl321, ↓asP_h hG.fp311_17, hG.fo322, hG.fa322, hG.fl322, ↓asP_h hG.fp311_18, hG.fo323, hG.fa323, hG.fl323, ↓asP_h hG.fp311_19, hG.fo324, hG.fa324, hG.fl324, ↓asP_h hG.fp311_22, hG.fo325, hG.fa325, hG.fl325, ↓asP_h hG.fp311_23, hG.fo326, hG.fa326, hG.fl326, ↓asP_h hG.fp311_24, hG.fo327, hG.fa327, hG.fl327, ↓asP_h hG.fp311_27, hG.fo328, hG.fa328, hG.fl328, ↓asP_h hG.fp311_28, hG.fo329, hG.fa329, hG.fl329, ↓asP_h hG.fp311_31, hG.fo330, hG.fa330, hG.fl330, ↓asP_h hG.fp311_34, hG.fo331, hG.fa331, hG.fl331, ↓asP_h hG.fp311_37, hG.fo332, hG.fa332, hG.fl332, ↓asP_h hG.fp311_38, hG.fo333, hG.fa333, hG.fl333, ↓asP_h hG.fp311_39, hG.fo334, hG.fl334, ↓asP_h hG.fp311_41, hG.fo335, hG.fa335, hG.fl335, ↓asP_h hG.fp311_42, hG.fo336, hG.fa336, hG.fl336, ↓asP_h hG.fp311_43, hG.fo337, hG.fa337, hG.fl337]
      refine ⟨_, _, _, _, rfl, ir, ?_⟩
      simp only [↓tX11_days, ↓opPush, ↓opILoad, ↓opLLoad, ↓opALoad, ↓opIStore, ↓opAStore, ↓opLStore, ↓opIInc, ↓opI1, ↓opII, ↓opID, ↓opLL, ↓opLD, ↓opLI, ↓opI2L, ↓opL2I, ↓opLcmp, ↓opDup, ↓opDupX1, ↓opDup2, ↓opPop, ↓opIf1, ↓opIf2, ↓opGoto, ↓opIRet, ↓opZRet, ↓opLRet, ↓opVRet, ↓opGetI, ↓opGetL, ↓opGetR, ↓opPutI, ↓opPutZ, ↓opPutL, ↓opPutR, ↓opIALoad, ↓opBALoad, ↓opZALoad, ↓opLALoad, ↓opAALoad, ↓opIAStore, ↓opZAStore, ↓opLAStore, ↓opALen, ↓opGetS, ↓opGetC, ↓opStrV, ↓opStrC, ↓opCallV, ↓opCallS, ↓opSw, ↓opCopy, ↓opCallT, ↓opBRet, ↓opObjI, ↓opNew, ↓opNewA, ↓opANew, ↓opAAStore, ↓opMNew, ↓opCallI, ↓wp_s, ↓wp_0, ↓popI_c, ↓popL_c, ↓popR_c, ↓pop1_i, ↓pop1_r, ↓ldI_0, ↓ldI_s, ↓ldL_0, ↓ldL_s, ↓ldR_0, ↓ldR_s, ↓stL_0, ↓stL_s, ↓tk_0, ↓tk_s, ↓Kc_s, ↓Kc_n, isS_0, isS_s, asP_c, gi_0, gi_s, noL_0, noL_s, isW_n, isW_i, isW_r, rcv_c, rcvT_c, swK_0, swK_s, catS, or_false, false_or, not_false_eq_true, not_true_eq_false, true_implies, false_implies, and_true, true_and, ↓reduceIte, Nat.reduceAdd, Nat.reduceLT, Nat.reduceLeDiff, Nat.reduceEqDiff, Nat.reduceSub, forall_const, eq_self, and_self, or_true, true_or, ne10]
      exact hQ
  have go := go (fun a b z => a = some (.int (if wDR P (I 328 50) n = -1 then itN dR n.toNatClampNeg I 328 50 else -1)) ∧ b = G ∧ z = (if wDR P (I 328 50) n = -1 then itN dR n.toNatClampNeg I else rfR I (wDR P (I 328 50) n))) ⟨rfl, rfl, rfl⟩
  obtain ⟨h1, h2, -⟩ := hR
  refine Ct.run okX11_days TX11_days [39] 60 rfl rfl ?_
  by_cases c0 : P = 0
  · rw [show wDR P (I 328 50) n = 0 from if_pos c0] at go ⊢
    simp only [↓tX11_days, ↓opPush, ↓opILoad, ↓opLLoad, ↓opALoad, ↓opIStore, ↓opAStore, ↓opLStore, ↓opIInc, ↓opI1, ↓opII, ↓opID, ↓opLL, ↓opLD, ↓opLI, ↓opI2L, ↓opL2I, ↓opLcmp, ↓opDup, ↓opDupX1, ↓opDup2, ↓opPop, ↓opIf1, ↓opIf2, ↓opGoto, ↓opIRet, ↓opZRet, ↓opLRet, ↓opVRet, ↓opGetI, ↓opGetL, ↓opGetR, ↓opPutI, ↓opPutZ, ↓opPutL, ↓opPutR, ↓opIALoad, ↓opBALoad, ↓opZALoad, ↓opLALoad, ↓opAALoad, ↓opIAStore, ↓opZAStore, ↓opLAStore, ↓opALen, ↓opGetS, ↓opGetC, ↓opStrV, ↓opStrC, ↓opCallV, ↓opCallS, ↓opSw, ↓opCopy, ↓opCallT, ↓opBRet, ↓opObjI, ↓opNew, ↓opNewA, ↓opANew, ↓opAAStore, ↓opMNew, ↓opCallI, ↓wp_s, ↓wp_0, ↓popI_c, ↓popL_c, ↓popR_c, ↓pop1_i, ↓pop1_r, ↓ldI_0, ↓ldI_s, ↓ldL_0, ↓ldL_s, ↓ldR_0, ↓ldR_s, ↓stL_0, ↓stL_s, ↓tk_0, ↓tk_s, ↓Kc_s, ↓Kc_n, isS_0, isS_s, asP_c, gi_0, gi_s, noL_0, noL_s, isW_n, isW_i, isW_r, rcv_c, rcvT_c, swK_0, swK_s, catS, or_false, false_or, not_false_eq_true, not_true_eq_false, true_implies, false_implies, and_true, true_and, ↓reduceIte, Nat.reduceAdd, Nat.reduceLT, Nat.reduceLeDiff, Nat.reduceEqDiff, Nat.reduceSub, forall_const, eq_self, and_self, or_true, true_or, lve_i, lve_r, lve_l, lve_0, List.replicate_succ, List.replicate_zero, mX, mX11_days, hG.fo311, ↓asP_h hG.fp311_1, hG.fo312, hG.fa312, hG.fl312, ↓asP_h hG.fp311_6, hG.fo313, hG.fa313, hG.fl313, ↓asP_h hG.fp311_7, hG.fo314, hG.fa314, hG.fl314, ↓asP_h hG.fp311_8, hG.fo315, hG.fa315, hG.fl315, ↓asP_h hG.fp311_9, hG.fo316, hG.fa316, hG.fl316, ↓asP_h hG.fp311_10, hG.fo317, hG.fa317, hG.fl317, ↓asP_h hG.fp311_11, hG.fo318, hG.fa318, hG.fl318, ↓asP_h hG.fp311_12, hG.fo319, hG.fa319, hG.fl319, ↓asP_h hG.fp311_15, hG.fo320, hG.fa320, hG.fl320, ↓asP_h hG.fp311_16, hG.fo321, hG.fa321, hG.fl321, ↓asP_h hG.fp311_17, hG.fo322, hG.fa322, hG.fl322, ↓asP_h hG.fp311_18, hG.fo323, hG.fa323, hG.fl323, ↓asP_h hG.fp311_19, hG.fo324, hG.fa324, hG.fl324, ↓asP_h hG.fp311_22, hG.fo325, hG.fa325, hG.fl325, ↓asP_h hG.fp311_23, hG.fo326, hG.fa326, hG.fl326, ↓asP_h hG.fp311_24, hG.fo327, hG.fa327, hG.fl327, ↓asP_h hG.fp311_27, hG.fo328, hG.fa328, hG.fl328, ↓asP_h hG.fp311_28, hG.fo329, hG.fa329, hG.fl329, ↓asP_h hG.fp311_31, hG.fo330, hG.fa330, hG.fl330, ↓asP_h hG.fp311_34, hG.fo331, hG.fa331, hG.fl331, ↓asP_h hG.fp311_37, hG.fo332, hG.fa332, hG.fl332, ↓asP_h hG.fp311_38, hG.fo333, hG.fa333, hG.fl333, ↓asP_h hG.fp311_39, hG.fo334, hG.fl334, ↓asP_h hG.fp311_41, hG.fo335, hG.fa335, hG.fl335, ↓asP_h hG.fp311_42, hG.fo336, hG.fa336, hG.fl336, ↓asP_h hG.fp311_43, hG.fo337, hG.fa337, hG.fl337, h2, show nI P = 0 by rw [c0]; rfl]
    exact go
  · simp only [↓tX11_days, ↓opPush, ↓opILoad, ↓opLLoad, ↓opALoad, ↓opIStore, ↓opAStore, ↓opLStore, ↓opIInc, ↓opI1, ↓opII, ↓opID, ↓opLL, ↓opLD, ↓opLI, ↓opI2L, ↓opL2I, ↓opLcmp, ↓opDup, ↓opDupX1, ↓opDup2, ↓opPop, ↓opIf1, ↓opIf2, ↓opGoto, ↓opIRet, ↓opZRet, ↓opLRet, ↓opVRet, ↓opGetI, ↓opGetL, ↓opGetR, ↓opPutI, ↓opPutZ, ↓opPutL, ↓opPutR, ↓opIALoad, ↓opBALoad, ↓opZALoad, ↓opLALoad, ↓opAALoad, ↓opIAStore, ↓opZAStore, ↓opLAStore, ↓opALen, ↓opGetS, ↓opGetC, ↓opStrV, ↓opStrC, ↓opCallV, ↓opCallS, ↓opSw, ↓opCopy, ↓opCallT, ↓opBRet, ↓opObjI, ↓opNew, ↓opNewA, ↓opANew, ↓opAAStore, ↓opMNew, ↓opCallI, ↓wp_s, ↓wp_0, ↓popI_c, ↓popL_c, ↓popR_c, ↓pop1_i, ↓pop1_r, ↓ldI_0, ↓ldI_s, ↓ldL_0, ↓ldL_s, ↓ldR_0, ↓ldR_s, ↓stL_0, ↓stL_s, ↓tk_0, ↓tk_s, ↓Kc_s, ↓Kc_n, isS_0, isS_s, asP_c, gi_0, gi_s, noL_0, noL_s, isW_n, isW_i, isW_r, rcv_c, rcvT_c, swK_0, swK_s, catS, or_false, false_or, not_false_eq_true, not_true_eq_false, true_implies, false_implies, and_true, true_and, ↓reduceIte, Nat.reduceAdd, Nat.reduceLT, Nat.reduceLeDiff, Nat.reduceEqDiff, Nat.reduceSub, forall_const, eq_self, and_self, or_true, true_or, lve_i, lve_r, lve_l, lve_0, List.replicate_succ, List.replicate_zero, mX, mX11_days, hG.fo311, ↓asP_h hG.fp311_1, hG.fo312, hG.fa312, hG.fl312, ↓asP_h hG.fp311_6, hG.fo313, hG.fa313, hG.fl313, ↓asP_h hG.fp311_7, hG.fo314, hG.fa314, hG.fl314, ↓asP_h hG.fp311_8, hG.fo315, hG.fa315, hG.fl315, ↓asP_h hG.fp311_9, hG.fo316, hG.fa316, hG.fl316, ↓asP_h hG.fp311_10, hG.fo317, hG.fa317, hG.fl317, ↓asP_h hG.fp311_11, hG.fo318, hG.fa318, hG.fl318, ↓asP_h hG.fp311_12, hG.fo319, hG.fa319, hG.fl319, ↓asP_h hG.fp311_15, hG.fo320, hG.fa320, hG.fl320, ↓asP_h hG.fp311_16, hG.fo321, hG.fa321, hG.fl321, ↓asP_h hG.fp311_17, hG.fo322, hG.fa322, hG.fl322, ↓asP_h hG.fp311_18, hG.fo323, hG.fa323, hG.fl323, ↓asP_h hG.fp311_19, hG.fo324, hG.fa324, hG.fl324, ↓asP_h hG.fp311_22, hG.fo325, hG.fa325, hG.fl325, ↓asP_h hG.fp311_23, hG.fo326, hG.fa326, hG.fl326, ↓asP_h hG.fp311_24, hG.fo327, hG.fa327, hG.fl327, ↓asP_h hG.fp311_27, hG.fo328, hG.fa328, hG.fl328, ↓asP_h hG.fp311_28, hG.fo329, hG.fa329, hG.fl329, ↓asP_h hG.fp311_31, hG.fo330, hG.fa330, hG.fl330, ↓asP_h hG.fp311_34, hG.fo331, hG.fa331, hG.fl331, ↓asP_h hG.fp311_37, hG.fo332, hG.fa332, hG.fl332, ↓asP_h hG.fp311_38, hG.fo333, hG.fa333, hG.fl333, ↓asP_h hG.fp311_39, hG.fo334, hG.fl334, ↓asP_h hG.fp311_41, hG.fo335, hG.fa335, hG.fl335, ↓asP_h hG.fp311_42, hG.fo336, hG.fa336, hG.fl336, ↓asP_h hG.fp311_43, hG.fo337, hG.fa337, hG.fl337, h2, eq_false (nI_ne0 (n := P) (by omega) (by omega))]
    refine ⟨_, _, _, _, rfl, r_in _ _ _, ?_⟩
    by_cases c1 : ¬ n < 1 ∧ ¬ 60 < n
    · rw [bInt_t c1]
      simp only [↓tX11_days, ↓opPush, ↓opILoad, ↓opLLoad, ↓opALoad, ↓opIStore, ↓opAStore, ↓opLStore, ↓opIInc, ↓opI1, ↓opII, ↓opID, ↓opLL, ↓opLD, ↓opLI, ↓opI2L, ↓opL2I, ↓opLcmp, ↓opDup, ↓opDupX1, ↓opDup2, ↓opPop, ↓opIf1, ↓opIf2, ↓opGoto, ↓opIRet, ↓opZRet, ↓opLRet, ↓opVRet, ↓opGetI, ↓opGetL, ↓opGetR, ↓opPutI, ↓opPutZ, ↓opPutL, ↓opPutR, ↓opIALoad, ↓opBALoad, ↓opZALoad, ↓opLALoad, ↓opAALoad, ↓opIAStore, ↓opZAStore, ↓opLAStore, ↓opALen, ↓opGetS, ↓opGetC, ↓opStrV, ↓opStrC, ↓opCallV, ↓opCallS, ↓opSw, ↓opCopy, ↓opCallT, ↓opBRet, ↓opObjI, ↓opNew, ↓opNewA, ↓opANew, ↓opAAStore, ↓opMNew, ↓opCallI, ↓wp_s, ↓wp_0, ↓popI_c, ↓popL_c, ↓popR_c, ↓pop1_i, ↓pop1_r, ↓ldI_0, ↓ldI_s, ↓ldL_0, ↓ldL_s, ↓ldR_0, ↓ldR_s, ↓stL_0, ↓stL_s, ↓tk_0, ↓tk_s, ↓Kc_s, ↓Kc_n, isS_0, isS_s, asP_c, gi_0, gi_s, noL_0, noL_s, isW_n, isW_i, isW_r, rcv_c, rcvT_c, swK_0, swK_s, catS, or_false, false_or, not_false_eq_true, not_true_eq_false, true_implies, false_implies, and_true, true_and, ↓reduceIte, Nat.reduceAdd, Nat.reduceLT, Nat.reduceLeDiff, Nat.reduceEqDiff, Nat.reduceSub, forall_const, eq_self, and_self, or_true, true_or, ne10, hG.fo311, ↓asP_h hG.fp311_1, hG.fo312, hG.fa312, hG.fl312, ↓asP_h hG.fp311_6, hG.fo313, hG.fa313, hG.fl313, ↓asP_h hG.fp311_7, hG.fo314, hG.fa314, hG.fl314, ↓asP_h hG.fp311_8, hG.fo315, hG.fa315, hG.fl315, ↓asP_h hG.fp311_9, hG.fo316, hG.fa316, hG.fl316, ↓asP_h hG.fp311_10, hG.fo317, hG.fa317, hG.fl317, ↓asP_h hG.fp311_11, hG.fo318, hG.fa318, hG.fl318, ↓asP_h hG.fp311_12, hG.fo319, hG.fa319, hG.fl319, ↓asP_h hG.fp311_15, hG.fo320, hG.fa320, hG.fl320, ↓asP_h hG.fp311_16, hG.fo321, hG.fa321, hG.fl321, ↓asP_h hG.fp311_17, hG.fo322, hG.fa322, hG.fl322, ↓asP_h hG.fp311_18, hG.fo323, hG.fa323, hG.fl323, ↓asP_h hG.fp311_19, hG.fo324, hG.fa324, hG.fl324, ↓asP_h hG.fp311_22, hG.fo325, hG.fa325, hG.fl325, ↓asP_h hG.fp311_23, hG.fo326, hG.fa326, hG.fl326, ↓asP_h hG.fp311_24, hG.fo327, hG.fa327, hG.fl327, ↓asP_h hG.fp311_27, hG.fo328, hG.fa328, hG.fl328, ↓asP_h hG.fp311_28, hG.fo329, hG.fa329, hG.fl329, ↓asP_h hG.fp311_31, hG.fo330, hG.fa330, hG.fl330, ↓asP_h hG.fp311_34, hG.fo331, hG.fa331, hG.fl331, ↓asP_h hG.fp311_37, hG.fo332, hG.fa332, hG.fl332, ↓asP_h hG.fp311_38, hG.fo333, hG.fa333, hG.fl333, ↓asP_h hG.fp311_39, hG.fo334, hG.fl334, ↓asP_h hG.fp311_41, hG.fo335, hG.fa335, hG.fl335, ↓asP_h hG.fp311_42, hG.fo336, hG.fa336, hG.fl336, ↓asP_h hG.fp311_43, hG.fo337, hG.fa337, hG.fl337]
      refine ⟨_, _, _, _, rfl, r_areDays hG n, ?_⟩
      by_cases c2 : 999 < I 328 50 + n
      · rw [bInt_f (fun z => z.2 c2)]
        rw [show wDR P (I 328 50) n = 4 from (if_neg c0).trans ((if_neg (fun z => z c1)).trans (if_pos c2))] at go ⊢
        simp only [↓tX11_days, ↓opPush, ↓opILoad, ↓opLLoad, ↓opALoad, ↓opIStore, ↓opAStore, ↓opLStore, ↓opIInc, ↓opI1, ↓opII, ↓opID, ↓opLL, ↓opLD, ↓opLI, ↓opI2L, ↓opL2I, ↓opLcmp, ↓opDup, ↓opDupX1, ↓opDup2, ↓opPop, ↓opIf1, ↓opIf2, ↓opGoto, ↓opIRet, ↓opZRet, ↓opLRet, ↓opVRet, ↓opGetI, ↓opGetL, ↓opGetR, ↓opPutI, ↓opPutZ, ↓opPutL, ↓opPutR, ↓opIALoad, ↓opBALoad, ↓opZALoad, ↓opLALoad, ↓opAALoad, ↓opIAStore, ↓opZAStore, ↓opLAStore, ↓opALen, ↓opGetS, ↓opGetC, ↓opStrV, ↓opStrC, ↓opCallV, ↓opCallS, ↓opSw, ↓opCopy, ↓opCallT, ↓opBRet, ↓opObjI, ↓opNew, ↓opNewA, ↓opANew, ↓opAAStore, ↓opMNew, ↓opCallI, ↓wp_s, ↓wp_0, ↓popI_c, ↓popL_c, ↓popR_c, ↓pop1_i, ↓pop1_r, ↓ldI_0, ↓ldI_s, ↓ldL_0, ↓ldL_s, ↓ldR_0, ↓ldR_s, ↓stL_0, ↓stL_s, ↓tk_0, ↓tk_s, ↓Kc_s, ↓Kc_n, isS_0, isS_s, asP_c, gi_0, gi_s, noL_0, noL_s, isW_n, isW_i, isW_r, rcv_c, rcvT_c, swK_0, swK_s, catS, or_false, false_or, not_false_eq_true, not_true_eq_false, true_implies, false_implies, and_true, true_and, ↓reduceIte, Nat.reduceAdd, Nat.reduceLT, Nat.reduceLeDiff, Nat.reduceEqDiff, Nat.reduceSub, forall_const, eq_self, and_self, or_true, true_or]
        exact go
      · rw [bInt_t ⟨c1, c2⟩]
        rw [show wDR P (I 328 50) n = -1 from (if_neg c0).trans ((if_neg (fun z => z c1)).trans (if_neg c2))] at go ⊢
        simp only [↓tX11_days, ↓opPush, ↓opILoad, ↓opLLoad, ↓opALoad, ↓opIStore, ↓opAStore, ↓opLStore, ↓opIInc, ↓opI1, ↓opII, ↓opID, ↓opLL, ↓opLD, ↓opLI, ↓opI2L, ↓opL2I, ↓opLcmp, ↓opDup, ↓opDupX1, ↓opDup2, ↓opPop, ↓opIf1, ↓opIf2, ↓opGoto, ↓opIRet, ↓opZRet, ↓opLRet, ↓opVRet, ↓opGetI, ↓opGetL, ↓opGetR, ↓opPutI, ↓opPutZ, ↓opPutL, ↓opPutR, ↓opIALoad, ↓opBALoad, ↓opZALoad, ↓opLALoad, ↓opAALoad, ↓opIAStore, ↓opZAStore, ↓opLAStore, ↓opALen, ↓opGetS, ↓opGetC, ↓opStrV, ↓opStrC, ↓opCallV, ↓opCallS, ↓opSw, ↓opCopy, ↓opCallT, ↓opBRet, ↓opObjI, ↓opNew, ↓opNewA, ↓opANew, ↓opAAStore, ↓opMNew, ↓opCallI, ↓wp_s, ↓wp_0, ↓popI_c, ↓popL_c, ↓popR_c, ↓pop1_i, ↓pop1_r, ↓ldI_0, ↓ldI_s, ↓ldL_0, ↓ldL_s, ↓ldR_0, ↓ldR_s, ↓stL_0, ↓stL_s, ↓tk_0, ↓tk_s, ↓Kc_s, ↓Kc_n, isS_0, isS_s, asP_c, gi_0, gi_s, noL_0, noL_s, isW_n, isW_i, isW_r, rcv_c, rcvT_c, swK_0, swK_s, catS, or_false, false_or, not_false_eq_true, not_true_eq_false, true_implies, false_implies, and_true, true_and, ↓reduceIte, Nat.reduceAdd, Nat.reduceLT, Nat.reduceLeDiff, Nat.reduceEqDiff, Nat.reduceSub, forall_const, eq_self, and_self, or_true, true_or, ne10]
        exact go
    · rw [bInt_f c1]
      rw [show wDR P (I 328 50) n = 1 from (if_neg c0).trans (if_pos c1)] at go ⊢
      simp only [↓tX11_days, ↓opPush, ↓opILoad, ↓opLLoad, ↓opALoad, ↓opIStore, ↓opAStore, ↓opLStore, ↓opIInc, ↓opI1, ↓opII, ↓opID, ↓opLL, ↓opLD, ↓opLI, ↓opI2L, ↓opL2I, ↓opLcmp, ↓opDup, ↓opDupX1, ↓opDup2, ↓opPop, ↓opIf1, ↓opIf2, ↓opGoto, ↓opIRet, ↓opZRet, ↓opLRet, ↓opVRet, ↓opGetI, ↓opGetL, ↓opGetR, ↓opPutI, ↓opPutZ, ↓opPutL, ↓opPutR, ↓opIALoad, ↓opBALoad, ↓opZALoad, ↓opLALoad, ↓opAALoad, ↓opIAStore, ↓opZAStore, ↓opLAStore, ↓opALen, ↓opGetS, ↓opGetC, ↓opStrV, ↓opStrC, ↓opCallV, ↓opCallS, ↓opSw, ↓opCopy, ↓opCallT, ↓opBRet, ↓opObjI, ↓opNew, ↓opNewA, ↓opANew, ↓opAAStore, ↓opMNew, ↓opCallI, ↓wp_s, ↓wp_0, ↓popI_c, ↓popL_c, ↓popR_c, ↓pop1_i, ↓pop1_r, ↓ldI_0, ↓ldI_s, ↓ldL_0, ↓ldL_s, ↓ldR_0, ↓ldR_s, ↓stL_0, ↓stL_s, ↓tk_0, ↓tk_s, ↓Kc_s, ↓Kc_n, isS_0, isS_s, asP_c, gi_0, gi_s, noL_0, noL_s, isW_n, isW_i, isW_r, rcv_c, rcvT_c, swK_0, swK_s, catS, or_false, false_or, not_false_eq_true, not_true_eq_false, true_implies, false_implies, and_true, true_and, ↓reduceIte, Nat.reduceAdd, Nat.reduceLT, Nat.reduceLeDiff, Nat.reduceEqDiff, Nat.reduceSub, forall_const, eq_self, and_self, or_true, true_or]
      exact go
end
