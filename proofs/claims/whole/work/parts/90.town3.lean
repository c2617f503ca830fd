/-! ===== the reference: a town's text ===== -/
/-- letters and bounds, as they are given -/
def GVv (I : IM) : Prop := CT 115 (I 100014) 2 (I 100001) (I 100002) ∧ CT 112 (I 100015) 2 (I 100003) (I 100004) ∧ CT 103 (I 100013) 4 (I 100005) (I 100006)
/-- class (K) and reference (J) while a town is read -/
def TR (L p g : Nat) (K J : IM) : Prop := J 311 2 = nI L ∧ J 312 = K 2 ∧ p ≤ 5 ∧ g ≤ 10 ∧ K 4 0 = nI p ∧ J 311 20 = nI p ∧ K 4 1 = nI g ∧ J 311 21 = nI g ∧ J 322 0 = K 4 2 ∧ J 322 1 = K 7 5 ∧ (∀ q, q < p → J 323 (2 * q) = K 5 q ∧ J 323 (2 * q + 1) = K 6 q) ∧ ∀ h, h < g → ∀ r, r < 4 → J 324 (4 * h + r) = K (8 + r) h
theorem tc_m1 (L : Nat) (K : IM) (a : Nat) : tcF L K a (-1) = if pk (K 2) L a = 115 ∧ K 3 3 = 0 then (rrI K (rrF K L (sk (K 2) L a) (-1)).2.2, (rrF K L (sk (K 2) L a) (-1)).1, (rrF K L (sk (K 2) L a) (-1)).2.1)
  else if pk (K 2) L a = 112 ∧ ¬ 5 ≤ K 4 0 then (rpI K (rpF K L (sk (K 2) L a) (-1)).2.2 (K 4 0).toNatClampNeg, (rpF K L (sk (K 2) L a) (-1)).1, (rpF K L (sk (K 2) L a) (-1)).2.1)
  else if pk (K 2) L a = 103 ∧ ¬ 10 ≤ K 4 1 then (rgI K (rgF K L (sk (K 2) L a) (-1)).2.2 (K 4 1).toNatClampNeg, (rgF K L (sk (K 2) L a) (-1)).1, (rgF K L (sk (K 2) L a) (-1)).2.1)
  else (K, sk (K 2) L a, nI (sk (K 2) L a)) := rfl
theorem pkin {row : Nat → Int32} {L a : Nat} {c : Int32} (h : pk row L a = c) (hc : ¬ c = -1) : sk row L a < L := by
  by_cases z : sk row L a < L
  · exact z
  · exact absurd (h.symm.trans (if_neg z)) hc
theorem pit_in {r : Nat → Int32} {fr n k : Nat} {it : Nat → Int32} (hk : k < n) : pit r fr n it (fr + k) = it k := by
  unfold pit
  rw [if_pos ⟨by omega, by omega⟩, Nat.add_sub_cancel_left]
theorem pit_out {r : Nat → Int32} {fr n j : Nat} {it : Nat → Int32} (h : j < fr ∨ fr + n ≤ j) : pit r fr n it j = r j := by
  unfold pit
  rw [if_neg (by omega)]
section
variable {E : EV} {d : Nat} {G : GD} {K J : IM} {L p g : Nat}
set_option maxRecDepth 100000 in
set_option maxHeartbeats 4000000 in
theorem r_clauseT (hG : GTs G) (hL : L ≤ 240) (hv : GVv K) (hT : TR L p g K J) (hb : ∀ k, k < L → ∃ x, x < 256 ∧ K 2 k = nI x) (h3 : K 3 3 = 0 ∨ K 3 3 = 1) {a : Nat} (ha : a ≤ L) : ∃ J' b p' g', b ≤ L ∧ ((tcF L K a (-1)).2.2 = -1 → b = (tcF L K a (-1)).2.1 ∧ TR L p' g' (tcF L K a (-1)).1 J') ∧ (∀ x k, ¬ (x = 322 ∨ x = 323 ∨ x = 324 ∨ x = 311 ∧ (k = 3 ∨ k = 4 ∨ k = 20 ∨ k = 21)) → J' x k = J x k) ∧ ((tcF L K a (-1)).1 3 3 = 0 ∨ (tcF L K a (-1)).1 3 3 = 1) ∧ ∀ (Q : QT) (z : Option Value), (∀ w, Ex E (d + 5) mX11_readTown Q 213 [some (.ref 311), some (.int ((tcF L K a (-1)).1 3 3)), some (.int 1), some (.int w)] [] (0, 0) G (mI J' b (tcF L K a (-1)).2.2)) → Ex E (d + 5) mX11_readTown Q 61 [some (.ref 311), some (.int (K 3 3)), some (.int 1), z] [] (0, 0) G (mI J a (-1)) := by
  obtain ⟨t1, t2, t3, t4, t5, t6, t7, t8, t9, t10, t11, t12⟩ := hT
  have lk := r_look (E := E) (d := d + 3) (J := J) hG hL t1 (a := a) (by omega) (-1)
  have hs := sk_le (K 2) ha
  have hb' : ∀ k, k < L → ∃ x, x < 256 ∧ J 312 k = nI x := fun k hk => by rw [t2]; exact hb k hk
  rw [t2] at lk
  generalize hpk : pk (K 2) L a = c at lk
  by_cases c1 : c = 115 ∧ K 3 3 = 0
  · have e : tcF L K a (-1) = (rrI K (rrF K L (sk (K 2) L a) (-1)).2.2, (rrF K L (sk (K 2) L a) (-1)).1, (rrF K L (sk (K 2) L a) (-1)).2.1) := by
      rw [tc_m1, hpk, if_pos c1]
    have hsL := pkin hpk (by rw [c1.1]; decide)
    obtain ⟨b, row', i1, i2, i3⟩ := r_items (E := E) (d := d + 1) (J := J) hG hL t1 hb' (c := 115) (n := 2) (by decide) hv.1 (tt := 322) (fr := 0) (N := 2) ⟨by decide, by decide⟩ hG.fo322 hG.fl322 (by decide) (by decide) (a := sk (K 2) L a + 1) (by omega) (its4 1 20 0 0 (K 14)) (fun k hk => by
      have : k = 0 ∨ k = 1 := by omega
      rcases this with rfl | rfl <;> rfl)
    have eR : riL (J 312) L (K 100014) 2 (K 100001) (K 100002) (2 + 1) 0 (sk (K 2) L a + 1) (-1) (its4 1 20 0 0 (K 14)) = rrF K L (sk (K 2) L a) (-1) := by
      unfold rrF
      rw [t2, show tkA L (sk (K 2) L a) = sk (K 2) L a + 1 from if_pos hsL]
    rw [eR] at i2 i3
    have k33 : rrI K (rrF K L (sk (K 2) L a) (-1)).2.2 3 3 = 1 := by
      unfold rrI
      rw [up2_sa]
    rw [e]
    refine ⟨rwI J 322 row', b, p, g, i1, fun hF => ⟨(i2 hF).1, ?_⟩, fun x k hx => by rw [rwI_ne (fun z => hx (Or.inl z))], Or.inr k33, fun Q z hQ => ?_⟩
    · show TR L p g (rrI K (rrF K L (sk (K 2) L a) (-1)).2.2) (rwI J 322 row')
      rw [(i2 hF).2]
      generalize (rrF K L (sk (K 2) L a) (-1)).2.2 = it
      have kk : ∀ b, b ≠ 14 → b ≠ 4 → b ≠ 7 → b ≠ 3 → rrI K it b = K b := fun b h1 h2 h3 h4 => by
        unfold rrI
        rw [up2_ne h4, up2_ne h3, up2_ne h2, rwI_ne h1]
      have k4 : ∀ k, k ≠ 2 → rrI K it 4 k = K 4 k := fun k hk => by
        unfold rrI
        rw [up2_ne (by decide), up2_ne (by decide), up2_nk hk, rwI_ne (by decide)]
      have k42 : rrI K it 4 2 = it 0 := by
        unfold rrI
        rw [up2_ne (by decide), up2_ne (by decide), up2_sa]
      have k75 : rrI K it 7 5 = it 1 := by
        unfold rrI
        rw [up2_ne (by decide), up2_sa]
      refine ⟨?_, ?_, t3, t4, ?_, ?_, ?_, ?_, ?_, ?_, fun q hq => ?_, fun h hh r hr => ?_⟩
      · rw [rwI_ne (by decide)]; exact t1
      · rw [rwI_ne (by decide), kk 2 (by decide) (by decide) (by decide) (by decide)]; exact t2
      · rw [k4 0 (by decide)]; exact t5
      · rw [rwI_ne (by decide)]; exact t6
      · rw [k4 1 (by decide)]; exact t7
      · rw [rwI_ne (by decide)]; exact t8
      · rw [rwI_at, k42]
        exact pit_in (fr := 0) (k := 0) (by decide)
      · rw [rwI_at, k75]
        exact pit_in (fr := 0) (k := 1) (by decide)
      · rw [rwI_ne (by decide), kk 5 (by decide) (by decide) (by decide) (by decide), kk 6 (by decide) (by decide) (by decide) (by decide)]
        exact t11 q hq
      · rw [rwI_ne (by decide), kk (8 + r) (by omega) (by omega) (by omega) (by omega)]
        exact t12 h hh r hr
    · have hQ := hQ 115
      rw [show (rrI K (rrF K L (sk (K 2) L a) (-1)).2.2, (rrF K L (sk (K 2) L a) (-1)).1, (rrF K L (sk (K 2) L a) (-1)).2.1).1 3 3 = 1 from k33] at hQ
      refine Ex.run TX11_readTown [213] 90 ?_
      simp only [↓tX11_readTown, ↓opPush, ↓opILoad, ↓opLLoad, ↓opALoad, ↓opIStore, ↓opAStore, ↓opLStore, ↓opIInc, ↓opI1, ↓opII, ↓opID, ↓opLL, ↓opLD, ↓opLI, ↓opI2L, ↓opL2I, ↓opLcmp, ↓opDup, ↓opDupX1, ↓opDup2, ↓opPop, ↓opIf1, ↓opIf2, ↓opGoto, ↓opIRet, ↓opZRet, ↓opLRet, ↓opVRet, ↓opGetI, ↓opGetL, ↓opGetR, ↓opPutI, ↓opPutZ, ↓opPutL, ↓opPutR, ↓opIALoad, ↓opBALoad, ↓opZALoad, ↓opLALoad, ↓opAALoad, ↓opIAStore, ↓opZAStore, ↓opLAStore, ↓opALen, ↓opGetS, ↓opGetC, ↓opStrV, ↓opStrC, ↓opCallV, ↓opCallS, ↓opSw, ↓opCopy, ↓opCallT, ↓opBRet, ↓opObjI, ↓opNew, ↓opNewA, ↓opANew, ↓opAAStore, ↓opMNew, ↓opCallI, ↓wp_s, ↓wp_0, ↓popI_c, ↓popL_c, ↓popR_c, ↓pop1_i, ↓pop1_r, ↓ldI_0, ↓ldI_s, ↓ldL_0, ↓ldL_s, ↓ldR_0, ↓ldR_s, ↓stL_0, ↓stL_s, ↓tk_0, ↓tk_s, ↓Kc_s, ↓Kc_n, isS_0, isS_s, asP_c, gi_0, gi_s, noL_0, noL_s, isW_n, isW_i, isW_r, rcv_c, rcvT_c, swK_0, swK_s, catS, or_false, false_or, not_false_eq_true, not_true_eq_false, true_implies, false_implies, and_true, true_and, ↓reduceIte, Nat.reduceAdd, Nat.reduceLT, Nat.reduceLeDiff, Nat.reduceEqDiff, Nat.reduceSub, forall_const, eq_self, and_self, or_true, true_or, hG.fo311, ↓asP_h hG.fp311_1, hG.fo312, hG.fa312, hG.fl312, ↓asP_h hG.fp311_6, hG.fo313, hG.fa313, hG.fl313, ↓asP_h hG.fp311_7, hG.fo314, hG.fa314, hG.fl314, ↓asP_h hG.fp311_8, hG.fo315, hG.fa315, hG.fl315, ↓asP_h hG.fp311_9, hG.fo316, hG.fa316, hG.fl316, ↓asP_h hG.fp311_10, hG.fo317, hG.fa317, hG.fl317, ↓asP_h hG.fp311_11, hG.fo318, hG.fa318, hG.fl318, ↓asP_h hG.fp311_12, hG.fo319, hG.fa319, hG.fl319, ↓asP_h hG.fp311_15, hG.fo320, hG.fa320, hG.fl320, ↓asP_h hG.fp311_16, hG.fo321, hG.fa321, hG.fl321, ↓asP_h hG.fp311_17, hG.fo322, hG.fa322, hG.fl322, ↓asP_h hG.fp311_18, hG.fo323, hG.fa323, hG.fl323, ↓asP_h hG.fp311_19, hG.fo324, hG.fa324, hG.fl324, ↓asP_h hG.fp311_22, hG.fo325, hG.fa325, hG.fl325, ↓asP_h hG.fp311_23, hG.fo326, hG.fa326, hG.fl326, ↓asP_h hG.fp311_24, hG.fo327, hG.fa327, hG.fl327, ↓asP_h hG.fp311_27, hG.fo328, hG.fa328, hG.fl328, ↓asP_h hG.fp311_28, hG.fo329, hG.fa329, hG.fl329, ↓asP_h hG.fp311_31, hG.fo330, hG.fa330, hG.fl330, ↓asP_h hG.fp311_34, hG.fo331, hG.fa331, hG.fl331, ↓asP_h hG.fp311_37, hG.fo332, hG.fa332, hG.fl332, ↓asP_h hG.fp311_38, hG.fo333, hG.fa333, hG.fl333, ↓asP_h hG.fp311_39, hG.fo334, hG.fl334, ↓asP_h hG.fp311_41, hG.fo335, hG.fa335, hG.fl335, ↓asP_h hG.fp311_42, hG.fo336, hG.fa336, hG.fl336, ↓asP_h hG.fp311_43, hG.fo337, hG.fa337, hG.fl337]
      refine ⟨_, _, _, _, rfl, lk, ?_⟩
      simp only [↓tX11_readTown, ↓opPush, ↓opILoad, ↓opLLoad, ↓opALoad, ↓opIStore, ↓opAStore, ↓opLStore, ↓opIInc, ↓opI1, ↓opII, ↓opID, ↓opLL, ↓opLD, ↓opLI, ↓opI2L, ↓opL2I, ↓opLcmp, ↓opDup, ↓opDupX1, ↓opDup2, ↓opPop, ↓opIf1, ↓opIf2, ↓opGoto, ↓opIRet, ↓opZRet, ↓opLRet, ↓opVRet, ↓opGetI, ↓opGetL, ↓opGetR, ↓opPutI, ↓opPutZ, ↓opPutL, ↓opPutR, ↓opIALoad, ↓opBALoad, ↓opZALoad, ↓opLALoad, ↓opAALoad, ↓opIAStore, ↓opZAStore, ↓opLAStore, ↓opALen, ↓opGetS, ↓opGetC, ↓opStrV, ↓opStrC, ↓opCallV, ↓opCallS, ↓opSw, ↓opCopy, ↓opCallT, ↓opBRet, ↓opObjI, ↓opNew, ↓opNewA, ↓opANew, ↓opAAStore, ↓opMNew, ↓opCallI, ↓wp_s, ↓wp_0, ↓popI_c, ↓popL_c, ↓popR_c, ↓pop1_i, ↓pop1_r, ↓ldI_0, ↓ldI_s, ↓ldL_0, ↓ldL_s, ↓ldR_0, ↓ldR_s, ↓stL_0, ↓stL_s, ↓tk_0, ↓tk_s, ↓Kc_s, ↓Kc_n, isS_0, isS_s, asP_c, gi_0, gi_s, noL_0, noL_s, isW_n, isW_i, isW_r, rcv_c, rcvT_c, swK_0, swK_s, catS, or_false, false_or, not_false_eq_true, not_true_eq_false, true_implies, false_implies, and_true, true_and, ↓reduceIte, Nat.reduceAdd, Nat.reduceLT, Nat.reduceLeDiff, Nat.reduceEqDiff, Nat.reduceSub, forall_const, eq_self, and_self, or_true, true_or, hG.fo311, ↓asP_h hG.fp311_17, hG.fo322, hG.fa322, hG.fl322, c1.1, c1.2, mI_3, nI_1]
      rw [mI_u3]
      refine ⟨_, _, _, _, rfl, i3, ?_⟩
      simp only [↓tX11_readTown, ↓opPush, ↓opILoad, ↓opLLoad, ↓opALoad, ↓opIStore, ↓opAStore, ↓opLStore, ↓opIInc, ↓opI1, ↓opII, ↓opID, ↓opLL, ↓opLD, ↓opLI, ↓opI2L, ↓opL2I, ↓opLcmp, ↓opDup, ↓opDupX1, ↓opDup2, ↓opPop, ↓opIf1, ↓opIf2, ↓opGoto, ↓opIRet, ↓opZRet, ↓opLRet, ↓opVRet, ↓opGetI, ↓opGetL, ↓opGetR, ↓opPutI, ↓opPutZ, ↓opPutL, ↓opPutR, ↓opIALoad, ↓opBALoad, ↓opZALoad, ↓opLALoad, ↓opAALoad, ↓opIAStore, ↓opZAStore, ↓opLAStore, ↓opALen, ↓opGetS, ↓opGetC, ↓opStrV, ↓opStrC, ↓opCallV, ↓opCallS, ↓opSw, ↓opCopy, ↓opCallT, ↓opBRet, ↓opObjI, ↓opNew, ↓opNewA, ↓opANew, ↓opAAStore, ↓opMNew, ↓opCallI, ↓wp_s, ↓wp_0, ↓popI_c, ↓popL_c, ↓popR_c, ↓pop1_i, ↓pop1_r, ↓ldI_0, ↓ldI_s, ↓ldL_0, ↓ldL_s, ↓ldR_0, ↓ldR_s, ↓stL_0, ↓stL_s, ↓tk_0, ↓tk_s, ↓Kc_s, ↓Kc_n, isS_0, isS_s, asP_c, gi_0, gi_s, noL_0, noL_s, isW_n, isW_i, isW_r, rcv_c, rcvT_c, swK_0, swK_s, catS, or_false, false_or, not_false_eq_true, not_true_eq_false, true_implies, false_implies, and_true, true_and, ↓reduceIte, Nat.reduceAdd, Nat.reduceLT, Nat.reduceLeDiff, Nat.reduceEqDiff, Nat.reduceSub, forall_const, eq_self, and_self, or_true, true_or]
      exact hQ
  · have bad1 : ∀ Q : QT, Ex E (d + 5) mX11_readTown Q 102 [some (.ref 311), some (.int (K 3 3)), some (.int 1), some (.int c)] [] (0, 0) G (mI J (sk (K 2) L a) (-1)) → ∀ z, Ex E (d + 5) mX11_readTown Q 61 [some (.ref 311), some (.int (K 3 3)), some (.int 1), z] [] (0, 0) G (mI J a (-1)) := by
      intro Q hQ z
      refine Ex.run TX11_readTown [102] 60 ?_
      simp only [↓tX11_readTown, ↓opPush, ↓opILoad, ↓opLLoad, ↓opALoad, ↓opIStore, ↓opAStore, ↓opLStore, ↓opIInc, ↓opI1, ↓opII, ↓opID, ↓opLL, ↓opLD, ↓opLI, ↓opI2L, ↓opL2I, ↓opLcmp, ↓opDup, ↓opDupX1, ↓opDup2, ↓opPop, ↓opIf1, ↓opIf2, ↓opGoto, ↓opIRet, ↓opZRet, ↓opLRet, ↓opVRet, ↓opGetI, ↓opGetL, ↓opGetR, ↓opPutI, ↓opPutZ, ↓opPutL, ↓opPutR, ↓opIALoad, ↓opBALoad, ↓opZALoad, ↓opLALoad, ↓opAALoad, ↓opIAStore, ↓opZAStore, ↓opLAStore, ↓opALen, ↓opGetS, ↓opGetC, ↓opStrV, ↓opStrC, ↓opCallV, ↓opCallS, ↓opSw, ↓opCopy, ↓opCallT, ↓opBRet, ↓opObjI, ↓opNew, ↓opNewA, ↓opANew, ↓opAAStore, ↓opMNew, ↓opCallI, ↓wp_s, ↓wp_0, ↓popI_c, ↓popL_c, ↓popR_c, ↓pop1_i, ↓pop1_r, ↓ldI_0, ↓ldI_s, ↓ldL_0, ↓ldL_s, ↓ldR_0, ↓ldR_s, ↓stL_0, ↓stL_s, ↓tk_0, ↓tk_s, ↓Kc_s, ↓Kc_n, isS_0, isS_s, asP_c, gi_0, gi_s, noL_0, noL_s, isW_n, isW_i, isW_r, rcv_c, rcvT_c, swK_0, swK_s, catS, or_false, false_or, not_false_eq_true, not_true_eq_false, true_implies, false_implies, and_true, true_and, ↓reduceIte, Nat.reduceAdd, Nat.reduceLT, Nat.reduceLeDiff, Nat.reduceEqDiff, Nat.reduceSub, forall_const, eq_self, and_self, or_true, true_or, hG.fo311, ↓asP_h hG.fp311_1, hG.fo312, hG.fa312, hG.fl312, ↓asP_h hG.fp311_6, hG.fo313, hG.fa313, hG.fl313, ↓asP_h hG.fp311_7, hG.fo314, hG.fa314, hG.fl314, ↓asP_h hG.fp311_8, hG.fo315, hG.fa315, hG.fl315, ↓asP_h hG.fp311_9, hG.fo316, hG.fa316, hG.fl316, ↓asP_h hG.fp311_10, hG.fo317, hG.fa317, hG.fl317, ↓asP_h hG.fp311_11, hG.fo318, hG.fa318, hG.fl318, ↓asP_h hG.fp311_12, hG.fo319, hG.fa319, hG.fl319, ↓asP_h hG.fp311_15, hG.fo320, hG.fa320, hG.fl320, ↓asP_h hG.fp311_16, hG.fo321, hG.fa321, hG.fl321, ↓asP_h hG.fp311_17, hG.fo322, hG.fa322, hG.fl322, ↓asP_h hG.fp311_18, hG.fo323, hG.fa323, hG.fl323, ↓asP_h hG.fp311_19, hG.fo324, hG.fa324, hG.fl324, ↓asP_h hG.fp311_22, hG.fo325, hG.fa325, hG.fl325, ↓asP_h hG.fp311_23, hG.fo326, hG.fa326, hG.fl326, ↓asP_h hG.fp311_24, hG.fo327, hG.fa327, hG.fl327, ↓asP_h hG.fp311_27, hG.fo328, hG.fa328, hG.fl328, ↓asP_h hG.fp311_28, hG.fo329, hG.fa329, hG.fl329, ↓asP_h hG.fp311_31, hG.fo330, hG.fa330, hG.fl330, ↓asP_h hG.fp311_34, hG.fo331, hG.fa331, hG.fl331, ↓asP_h hG.fp311_37, hG.fo332, hG.fa332, hG.fl332, ↓asP_h hG.fp311_38, hG.fo333, hG.fa333, hG.fl333, ↓asP_h hG.fp311_39, hG.fo334, hG.fl334, ↓asP_h hG.fp311_41, hG.fo335, hG.fa335, hG.fl335, ↓asP_h hG.fp311_42, hG.fo336, hG.fa336, hG.fl336, ↓asP_h hG.fp311_43, hG.fo337, hG.fa337, hG.fl337]
      refine ⟨_, _, _, _, rfl, lk, ?_⟩
      by_cases e1 : c = 115
      · have e2 : ¬ K 3 3 = 0 := fun z => c1 ⟨e1, z⟩
        simp only [↓tX11_readTown, ↓opPush, ↓opILoad, ↓opLLoad, ↓opALoad, ↓opIStore, ↓opAStore, ↓opLStore, ↓opIInc, ↓opI1, ↓opII, ↓opID, ↓opLL, ↓opLD, ↓opLI, ↓opI2L, ↓opL2I, ↓opLcmp, ↓opDup, ↓opDupX1, ↓opDup2, ↓opPop, ↓opIf1, ↓opIf2, ↓opGoto, ↓opIRet, ↓opZRet, ↓opLRet, ↓opVRet, ↓opGetI, ↓opGetL, ↓opGetR, ↓opPutI, ↓opPutZ, ↓opPutL, ↓opPutR, ↓opIALoad, ↓opBALoad, ↓opZALoad, ↓opLALoad, ↓opAALoad, ↓opIAStore, ↓opZAStore, ↓opLAStore, ↓opALen, ↓opGetS, ↓opGetC, ↓opStrV, ↓opStrC, ↓opCallV, ↓opCallS, ↓opSw, ↓opCopy, ↓opCallT, ↓opBRet, ↓opObjI, ↓opNew, ↓opNewA, ↓opANew, ↓opAAStore, ↓opMNew, ↓opCallI, ↓wp_s, ↓wp_0, ↓popI_c, ↓popL_c, ↓popR_c, ↓pop1_i, ↓pop1_r, ↓ldI_0, ↓ldI_s, ↓ldL_0, ↓ldL_s, ↓ldR_0, ↓ldR_s, ↓stL_0, ↓stL_s, ↓tk_0, ↓tk_s, ↓Kc_s, ↓Kc_n, isS_0, isS_s, asP_c, gi_0, gi_s, noL_0, noL_s, isW_n, isW_i, isW_r, rcv_c, rcvT_c, swK_0, swK_s, catS, or_false, false_or, not_false_eq_true, not_true_eq_false, true_implies, false_implies, and_true, true_and, ↓reduceIte, Nat.reduceAdd, Nat.reduceLT, Nat.reduceLeDiff, Nat.reduceEqDiff, Nat.reduceSub, forall_const, eq_self, and_self, or_true, true_or, e1, e2]
        rw [e1] at hQ
        exact hQ
      · simp only [↓tX11_readTown, ↓opPush, ↓opILoad, ↓opLLoad, ↓opALoad, ↓opIStore, ↓opAStore, ↓opLStore, ↓opIInc, ↓opI1, ↓opII, ↓opID, ↓opLL, ↓opLD, ↓opLI, ↓opI2L, ↓opL2I, ↓opLcmp, ↓opDup, ↓opDupX1, ↓opDup2, ↓opPop, ↓opIf1, ↓opIf2, ↓opGoto, ↓opIRet, ↓opZRet, ↓opLRet, ↓opVRet, ↓opGetI, ↓opGetL, ↓opGetR, ↓opPutI, ↓opPutZ, ↓opPutL, ↓opPutR, ↓opIALoad, ↓opBALoad, ↓opZALoad, ↓opLALoad, ↓opAALoad, ↓opIAStore, ↓opZAStore, ↓opLAStore, ↓opALen, ↓opGetS, ↓opGetC, ↓opStrV, ↓opStrC, ↓opCallV, ↓opCallS, ↓opSw, ↓opCopy, ↓opCallT, ↓opBRet, ↓opObjI, ↓opNew, ↓opNewA, ↓opANew, ↓opAAStore, ↓opMNew, ↓opCallI, ↓wp_s, ↓wp_0, ↓popI_c, ↓popL_c, ↓popR_c, ↓pop1_i, ↓pop1_r, ↓ldI_0, ↓ldI_s, ↓ldL_0, ↓ldL_s, ↓ldR_0, ↓ldR_s, ↓stL_0, ↓stL_s, ↓tk_0, ↓tk_s, ↓Kc_s, ↓Kc_n, isS_0, isS_s, asP_c, gi_0, gi_s, noL_0, noL_s, isW_n, isW_i, isW_r, rcv_c, rcvT_c, swK_0, swK_s, catS, or_false, false_or, not_false_eq_true, not_true_eq_false, true_implies, false_implies, and_true, true_and, ↓reduceIte, Nat.reduceAdd, Nat.reduceLT, Nat.reduceLeDiff, Nat.reduceEqDiff, Nat.reduceSub, forall_const, eq_self, and_self, or_true, true_or, e1]
        exact hQ
    by_cases c2 : c = 112 ∧ ¬ 5 ≤ K 4 0
    · have e : tcF L K a (-1) = (rpI K (rpF K L (sk (K 2) L a) (-1)).2.2 (K 4 0).toNatClampNeg, (rpF K L (sk (K 2) L a) (-1)).1, (rpF K L (sk (K 2) L a) (-1)).2.1) := by
        rw [tc_m1, hpk, if_neg c1, if_pos c2]
      have hsL := pkin hpk (by rw [c2.1]; decide)
      have hp5 : p < 5 := by
        have := c2.2
        rw [t5] at this
        exact Nat.lt_of_not_le (fun z => this (nI_le (a := 5) z (by omega)))
      have ecl : (K 4 0).toNatClampNeg = p := by rw [t5, nI_clamp (by omega)]
      obtain ⟨b, row', i1, i2, i3⟩ := r_items (E := E) (d := d + 1) (J := J) hG hL t1 hb' (c := 112) (n := 2) (by decide) hv.2.1 (tt := 323) (fr := 2 * p) (N := 10) ⟨by decide, by decide⟩ hG.fo323 hG.fl323 (by omega) (by decide) (a := sk (K 2) L a + 1) (by omega) (its4 4 3 0 0 (K 14)) (fun k hk => by
        have : k = 0 ∨ k = 1 := by omega
        rcases this with rfl | rfl <;> rfl)
      have eR : riL (J 312) L (K 100015) 2 (K 100003) (K 100004) (2 + 1) 0 (sk (K 2) L a + 1) (-1) (its4 4 3 0 0 (K 14)) = rpF K L (sk (K 2) L a) (-1) := by
        unfold rpF
        rw [t2, show tkA L (sk (K 2) L a) = sk (K 2) L a + 1 from if_pos hsL]
      rw [eR] at i2 i3
      rw [e, ecl]
      have k33 : rpI K (rpF K L (sk (K 2) L a) (-1)).2.2 p 3 3 = K 3 3 := by
        unfold rpI
        rw [up2_ne (by decide), up2_ne (by decide), up2_ne (by decide), rwI_ne (by decide)]
      refine ⟨up2 (rwI J 323 row') 311 20 (nI (p + 1)), b, p + 1, g, i1, fun hF => ⟨(i2 hF).1, ?_⟩, fun x k hx => ?_, by rw [show (rpI K (rpF K L (sk (K 2) L a) (-1)).2.2 p, (rpF K L (sk (K 2) L a) (-1)).1, (rpF K L (sk (K 2) L a) (-1)).2.1).1 3 3 = K 3 3 from k33]; exact h3, fun Q z hQ => ?_⟩
      · show TR L (p + 1) g (rpI K (rpF K L (sk (K 2) L a) (-1)).2.2 p) (up2 (rwI J 323 row') 311 20 (nI (p + 1)))
        rw [(i2 hF).2]
        generalize (rpF K L (sk (K 2) L a) (-1)).2.2 = it
        have kk : ∀ b, b ≠ 14 → b ≠ 5 → b ≠ 6 → b ≠ 4 → rpI K it p b = K b := fun b h1 h2 h3 h4 => by
          unfold rpI
          rw [up2_ne h4, up2_ne h3, up2_ne h2, rwI_ne h1]
        have k4 : ∀ k, k ≠ 0 → rpI K it p 4 k = K 4 k := fun k hk => by
          unfold rpI
          rw [up2_nk hk, up2_ne (by decide), up2_ne (by decide), rwI_ne (by decide)]
        have jj : ∀ b, b ≠ 311 → b ≠ 323 → up2 (rwI J 323 (pit (J 323) (2 * p) 2 it)) 311 20 (nI (p + 1)) b = J b := fun b h1 h2 => by rw [up2_ne h1, rwI_ne h2]
        have j311 : ∀ k, k ≠ 20 → up2 (rwI J 323 (pit (J 323) (2 * p) 2 it)) 311 20 (nI (p + 1)) 311 k = J 311 k := fun k hk => by rw [up2_nk hk, rwI_ne (by decide)]
        have j323 : up2 (rwI J 323 (pit (J 323) (2 * p) 2 it)) 311 20 (nI (p + 1)) 323 = pit (J 323) (2 * p) 2 it := by rw [up2_ne (by decide), rwI_at]
        have k5 : ∀ k, rpI K it p 5 k = if k = p then it 0 else K 5 k := fun k => by
          unfold rpI
          rw [up2_ne (by decide), up2_ne (by decide)]
          by_cases ek : k = p
          · rw [if_pos ek, ek, up2_sa]
          · rw [if_neg ek, up2_nk ek, rwI_ne (by decide)]
        have k6 : ∀ k, rpI K it p 6 k = if k = p then it 1 else K 6 k := fun k => by
          unfold rpI
          rw [up2_ne (by decide)]
          by_cases ek : k = p
          · rw [if_pos ek, ek, up2_sa]
          · rw [if_neg ek, up2_nk ek, up2_ne (by decide), rwI_ne (by decide)]
        refine ⟨?_, ?_, by omega, t4, ?_, ?_, ?_, ?_, ?_, ?_, fun q hq => ?_, fun h hh r hr => ?_⟩
        · rw [j311 2 (by decide)]; exact t1
        · rw [jj 312 (by decide) (by decide), kk 2 (by decide) (by decide) (by decide) (by decide)]; exact t2
        · unfold rpI; rw [up2_sa]
        · rw [up2_sa]
        · rw [k4 1 (by decide)]; exact t7
        · rw [j311 21 (by decide)]; exact t8
        · rw [jj 322 (by decide) (by decide), k4 2 (by decide)]; exact t9
        · rw [jj 322 (by decide) (by decide), kk 7 (by decide) (by decide) (by decide) (by decide)]; exact t10
        · rw [j323, k5, k6]
          by_cases eq : q = p
          · subst eq
            rw [if_pos rfl, if_pos rfl]
            exact ⟨pit_in (fr := 2 * q) (k := 0) (by decide), pit_in (fr := 2 * q) (k := 1) (by decide)⟩
          · rw [if_neg eq, if_neg eq, pit_out (by omega), pit_out (by omega)]
            exact t11 q (by omega)
        · rw [jj 324 (by decide) (by decide), kk (8 + r) (by omega) (by omega) (by omega) (by omega)]
          exact t12 h hh r hr
      · by_cases e311 : x = 311
        · subst e311
          rw [up2_nk (fun z => hx (by omega)), rwI_ne (by decide)]
        · rw [up2_ne e311, rwI_ne (fun z => hx (by omega))]
      · have hQ := hQ 112
        rw [show (rpI K (rpF K L (sk (K 2) L a) (-1)).2.2 p, (rpF K L (sk (K 2) L a) (-1)).1, (rpF K L (sk (K 2) L a) (-1)).2.1).1 3 3 = K 3 3 from k33] at hQ
        refine bad1 Q ?_ z
        have e20 : mI J (sk (K 2) L a) (-1) 311 20 = nI p := by rw [mI_k (by decide) (by decide)]; exact t6
        have e20' : mI J (sk (K 2) L a + 1) (-1) 311 20 = nI p := by rw [mI_k (by decide) (by decide)]; exact t6
        have e20'' : mI (rwI J 323 row') b (rpF K L (sk (K 2) L a) (-1)).2.1 311 20 = nI p := by rw [mI_k (by decide) (by decide), rwI_ne (by decide)]; exact t6
        have em : (2 : Int32) * nI p = nI (2 * p) := by rw [show (2 : Int32) = nI 2 from rfl, pk_mul]
        refine Ex.run TX11_readTown [213] 90 ?_
        simp only [↓tX11_readTown, ↓opPush, ↓opILoad, ↓opLLoad, ↓opALoad, ↓opIStore, ↓opAStore, ↓opLStore, ↓opIInc, ↓opI1, ↓opII, ↓opID, ↓opLL, ↓opLD, ↓opLI, ↓opI2L, ↓opL2I, ↓opLcmp, ↓opDup, ↓opDupX1, ↓opDup2, ↓opPop, ↓opIf1, ↓opIf2, ↓opGoto, ↓opIRet, ↓opZRet, ↓opLRet, ↓opVRet, ↓opGetI, ↓opGetL, ↓opGetR, ↓opPutI, ↓opPutZ, ↓opPutL, ↓opPutR, ↓opIALoad, ↓opBALoad, ↓opZALoad, ↓opLALoad, ↓opAALoad, ↓opIAStore, ↓opZAStore, ↓opLAStore, ↓opALen, ↓opGetS, ↓opGetC, ↓opStrV, ↓opStrC, ↓opCallV, ↓opCallS, ↓opSw, ↓opCopy, ↓opCallT, ↓opBRet, ↓opObjI, ↓opNew, ↓opNewA, ↓opANew, ↓opAAStore, ↓opMNew, ↓opCallI, ↓wp_s, ↓wp_0, ↓popI_c, ↓popL_c, ↓popR_c, ↓pop1_i, ↓pop1_r, ↓ldI_0, ↓ldI_s, ↓ldL_0, ↓ldL_s, ↓ldR_0, ↓ldR_s, ↓stL_0, ↓stL_s, ↓tk_0, ↓tk_s, ↓Kc_s, ↓Kc_n, isS_0, isS_s, asP_c, gi_0, gi_s, noL_0, noL_s, isW_n, isW_i, isW_r, rcv_c, rcvT_c, swK_0, swK_s, catS, or_false, false_or, not_false_eq_true, not_true_eq_false, true_implies, false_implies, and_true, true_and, ↓reduceIte, Nat.reduceAdd, Nat.reduceLT, Nat.reduceLeDiff, Nat.reduceEqDiff, Nat.reduceSub, forall_const, eq_self, and_self, or_true, true_or, hG.fo311, ↓asP_h hG.fp311_18, hG.fo323, hG.fa323, hG.fl323, c2.1, e20, eq_false (nI_ge (a := p) (b := 5) hp5 (by decide)), mI_3, nI_1, show ¬ (5 : Int32) ≤ nI p from nI_ge (a := p) (b := 5) hp5 (by decide)]
        rw [mI_u3, e20', em]
        refine ⟨_, _, _, _, rfl, i3, ?_⟩
        simp only [↓tX11_readTown, ↓opPush, ↓opILoad, ↓opLLoad, ↓opALoad, ↓opIStore, ↓opAStore, ↓opLStore, ↓opIInc, ↓opI1, ↓opII, ↓opID, ↓opLL, ↓opLD, ↓opLI, ↓opI2L, ↓opL2I, ↓opLcmp, ↓opDup, ↓opDupX1, ↓opDup2, ↓opPop, ↓opIf1, ↓opIf2, ↓opGoto, ↓opIRet, ↓opZRet, ↓opLRet, ↓opVRet, ↓opGetI, ↓opGetL, ↓opGetR, ↓opPutI, ↓opPutZ, ↓opPutL, ↓opPutR, ↓opIALoad, ↓opBALoad, ↓opZALoad, ↓opLALoad, ↓opAALoad, ↓opIAStore, ↓opZAStore, ↓opLAStore, ↓opALen, ↓opGetS, ↓opGetC, ↓opStrV, ↓opStrC, ↓opCallV, ↓opCallS, ↓opSw, ↓opCopy, ↓opCallT, ↓opBRet, ↓opObjI, ↓opNew, ↓opNewA, ↓opANew, ↓opAAStore, ↓opMNew, ↓opCallI, ↓wp_s, ↓wp_0, ↓popI_c, ↓popL_c, ↓popR_c, ↓pop1_i, ↓pop1_r, ↓ldI_0, ↓ldI_s, ↓ldL_0, ↓ldL_s, ↓ldR_0, ↓ldR_s, ↓stL_0, ↓stL_s, ↓tk_0, ↓tk_s, ↓Kc_s, ↓Kc_n, isS_0, isS_s, asP_c, gi_0, gi_s, noL_0, noL_s, isW_n, isW_i, isW_r, rcv_c, rcvT_c, swK_0, swK_s, catS, or_false, false_or, not_false_eq_true, not_true_eq_false, true_implies, false_implies, and_true, true_and, ↓reduceIte, Nat.reduceAdd, Nat.reduceLT, Nat.reduceLeDiff, Nat.reduceEqDiff, Nat.reduceSub, forall_const, eq_self, and_self, or_true, true_or, hG.fo311, ↓asP_h hG.fp311_1, hG.fo312, hG.fa312, hG.fl312, ↓asP_h hG.fp311_6, hG.fo313, hG.fa313, hG.fl313, ↓asP_h hG.fp311_7, hG.fo314, hG.fa314, hG.fl314, ↓asP_h hG.fp311_8, hG.fo315, hG.fa315, hG.fl315, ↓asP_h hG.fp311_9, hG.fo316, hG.fa316, hG.fl316, ↓asP_h hG.fp311_10, hG.fo317, hG.fa317, hG.fl317, ↓asP_h hG.fp311_11, hG.fo318, hG.fa318, hG.fl318, ↓asP_h hG.fp311_12, hG.fo319, hG.fa319, hG.fl319, ↓asP_h hG.fp311_15, hG.fo320, hG.fa320, hG.fl320, ↓asP_h hG.fp311_16, hG.fo321, hG.fa321, hG.fl321, ↓asP_h hG.fp311_17, hG.fo322, hG.fa322, hG.fl322, ↓asP_h hG.fp311_18, hG.fo323, hG.fa323, hG.fl323, ↓asP_h hG.fp311_19, hG.fo324, hG.fa324, hG.fl324, ↓asP_h hG.fp311_22, hG.fo325, hG.fa325, hG.fl325, ↓asP_h hG.fp311_23, hG.fo326, hG.fa326, hG.fl326, ↓asP_h hG.fp311_24, hG.fo327, hG.fa327, hG.fl327, ↓asP_h hG.fp311_27, hG.fo328, hG.fa328, hG.fl328, ↓asP_h hG.fp311_28, hG.fo329, hG.fa329, hG.fl329, ↓asP_h hG.fp311_31, hG.fo330, hG.fa330, hG.fl330, ↓asP_h hG.fp311_34, hG.fo331, hG.fa331, hG.fl331, ↓asP_h hG.fp311_37, hG.fo332, hG.fa332, hG.fl332, ↓asP_h hG.fp311_38, hG.fo333, hG.fa333, hG.fl333, ↓asP_h hG.fp311_39, hG.fo334, hG.fl334, ↓asP_h hG.fp311_41, hG.fo335, hG.fa335, hG.fl335, ↓asP_h hG.fp311_42, hG.fo336, hG.fa336, hG.fl336, ↓asP_h hG.fp311_43, hG.fo337, hG.fa337, hG.fl337, e20'', nI_1]
        rw [mI_uk (by decide) (by decide)]
        exact hQ
    · have bad2 : ∀ Q : QT, Ex E (d + 5) mX11_readTown Q 155 [some (.ref 311), some (.int (K 3 3)), some (.int 1), some (.int c)] [] (0, 0) G (mI J (sk (K 2) L a) (-1)) → ∀ z, Ex E (d + 5) mX11_readTown Q 61 [some (.ref 311), some (.int (K 3 3)), some (.int 1), z] [] (0, 0) G (mI J a (-1)) := by
        intro Q hQ z
        refine bad1 Q ?_ z
        have e20 : mI J (sk (K 2) L a) (-1) 311 20 = nI p := by rw [mI_k (by decide) (by decide)]; exact t6
        refine Ex.run TX11_readTown [155] 60 ?_
        by_cases e1 : c = 112
        · have e2 : (5 : Int32) ≤ nI p := by
            have := fun z => c2 ⟨e1, z⟩
            rw [t5] at this
            exact Decidable.not_not.mp this
          simp only [↓tX11_readTown, ↓opPush, ↓opILoad, ↓opLLoad, ↓opALoad, ↓opIStore, ↓opAStore, ↓opLStore, ↓opIInc, ↓opI1, ↓opII, ↓opID, ↓opLL, ↓opLD, ↓opLI, ↓opI2L, ↓opL2I, ↓opLcmp, ↓opDup, ↓opDupX1, ↓opDup2, ↓opPop, ↓opIf1, ↓opIf2, ↓opGoto, ↓opIRet, ↓opZRet, ↓opLRet, ↓opVRet, ↓opGetI, ↓opGetL, ↓opGetR, ↓opPutI, ↓opPutZ, ↓opPutL, ↓opPutR, ↓opIALoad, ↓opBALoad, ↓opZALoad, ↓opLALoad, ↓opAALoad, ↓opIAStore, ↓opZAStore, ↓opLAStore, ↓opALen, ↓opGetS, ↓opGetC, ↓opStrV, ↓opStrC, ↓opCallV, ↓opCallS, ↓opSw, ↓opCopy, ↓opCallT, ↓opBRet, ↓opObjI, ↓opNew, ↓opNewA, ↓opANew, ↓opAAStore, ↓opMNew, ↓opCallI, ↓wp_s, ↓wp_0, ↓popI_c, ↓popL_c, ↓popR_c, ↓pop1_i, ↓pop1_r, ↓ldI_0, ↓ldI_s, ↓ldL_0, ↓ldL_s, ↓ldR_0, ↓ldR_s, ↓stL_0, ↓stL_s, ↓tk_0, ↓tk_s, ↓Kc_s, ↓Kc_n, isS_0, isS_s, asP_c, gi_0, gi_s, noL_0, noL_s, isW_n, isW_i, isW_r, rcv_c, rcvT_c, swK_0, swK_s, catS, or_false, false_or, not_false_eq_true, not_true_eq_false, true_implies, false_implies, and_true, true_and, ↓reduceIte, Nat.reduceAdd, Nat.reduceLT, Nat.reduceLeDiff, Nat.reduceEqDiff, Nat.reduceSub, forall_const, eq_self, and_self, or_true, true_or, hG.fo311, ↓asP_h hG.fp311_1, hG.fo312, hG.fa312, hG.fl312, ↓asP_h hG.fp311_6, hG.fo313, hG.fa313, hG.fl313, ↓asP_h hG.fp311_7, hG.fo314, hG.fa314, hG.fl314, ↓asP_h hG.fp311_8, hG.fo315, hG.fa315, hG.fl315, ↓asP_h hG.fp311_9, hG.fo316, hG.fa316, hG.fl316, ↓asP_h hG.fp311_10, hG.fo317, hG.fa317, hG.fl317, ↓asP_h hG.fp311_11, hG.fo318, hG.fa318, hG.fl318, ↓asP_h hG.fp311_12, hG.fo319, hG.fa319, hG.fl319, ↓asP_h hG.fp311_15, hG.fo320, hG.fa320, hG.fl320, ↓asP_h hG.fp311_16, hG.fo321, hG.fa321, hG.fl321, ↓asP_h hG.fp311_17, hG.fo322, hG.fa322, hG.fl322, ↓asP_h hG.fp311_18, hG.fo323, hG.fa323, hG.fl323, ↓asP_h hG.fp311_19, hG.fo324, hG.fa324, hG.fl324, ↓asP_h hG.fp311_22, hG.fo325, hG.fa325, hG.fl325, ↓asP_h hG.fp311_23, hG.fo326, hG.fa326, hG.fl326, ↓asP_h hG.fp311_24, hG.fo327, hG.fa327, hG.fl327, ↓asP_h hG.fp311_27, hG.fo328, hG.fa328, hG.fl328, ↓asP_h hG.fp311_28, hG.fo329, hG.fa329, hG.fl329, ↓asP_h hG.fp311_31, hG.fo330, hG.fa330, hG.fl330, ↓asP_h hG.fp311_34, hG.fo331, hG.fa331, hG.fl331, ↓asP_h hG.fp311_37, hG.fo332, hG.fa332, hG.fl332, ↓asP_h hG.fp311_38, hG.fo333, hG.fa333, hG.fl333, ↓asP_h hG.fp311_39, hG.fo334, hG.fl334, ↓asP_h hG.fp311_41, hG.fo335, hG.fa335, hG.fl335, ↓asP_h hG.fp311_42, hG.fo336, hG.fa336, hG.fl336, ↓asP_h hG.fp311_43, hG.fo337, hG.fa337, hG.fl337, e1, e20, e2]
          rw [e1] at hQ
          exact hQ
        · simp only [↓tX11_readTown, ↓opPush, ↓opILoad, ↓opLLoad, ↓opALoad, ↓opIStore, ↓opAStore, ↓opLStore, ↓opIInc, ↓opI1, ↓opII, ↓opID, ↓opLL, ↓opLD, ↓opLI, ↓opI2L, ↓opL2I, ↓opLcmp, ↓opDup, ↓opDupX1, ↓opDup2, ↓opPop, ↓opIf1, ↓opIf2, ↓opGoto, ↓opIRet, ↓opZRet, ↓opLRet, ↓opVRet, ↓opGetI, ↓opGetL, ↓opGetR, ↓opPutI, ↓opPutZ, ↓opPutL, ↓opPutR, ↓opIALoad, ↓opBALoad, ↓opZALoad, ↓opLALoad, ↓opAALoad, ↓opIAStore, ↓opZAStore, ↓opLAStore, ↓opALen, ↓opGetS, ↓opGetC, ↓opStrV, ↓opStrC, ↓opCallV, ↓opCallS, ↓opSw, ↓opCopy, ↓opCallT, ↓opBRet, ↓opObjI, ↓opNew, ↓opNewA, ↓opANew, ↓opAAStore, ↓opMNew, ↓opCallI, ↓wp_s, ↓wp_0, ↓popI_c, ↓popL_c, ↓popR_c, ↓pop1_i, ↓pop1_r, ↓ldI_0, ↓ldI_s, ↓ldL_0, ↓ldL_s, ↓ldR_0, ↓ldR_s, ↓stL_0, ↓stL_s, ↓tk_0, ↓tk_s, ↓Kc_s, ↓Kc_n, isS_0, isS_s, asP_c, gi_0, gi_s, noL_0, noL_s, isW_n, isW_i, isW_r, rcv_c, rcvT_c, swK_0, swK_s, catS, or_false, false_or, not_false_eq_true, not_true_eq_false, true_implies, false_implies, and_true, true_and, ↓reduceIte, Nat.reduceAdd, Nat.reduceLT, Nat.reduceLeDiff, Nat.reduceEqDiff, Nat.reduceSub, forall_const, eq_self, and_self, or_true, true_or, hG.fo311, ↓asP_h hG.fp311_1, hG.fo312, hG.fa312, hG.fl312, ↓asP_h hG.fp311_6, hG.fo313, hG.fa313, hG.fl313, ↓asP_h hG.fp311_7, hG.fo314, hG.fa314, hG.fl314, ↓asP_h hG.fp311_8, hG.fo315, hG.fa315, hG.fl315, ↓asP_h hG.fp311_9, hG.fo316, hG.fa316, hG.fl316, ↓asP_h hG.fp311_10, hG.fo317, hG.fa317, hG.fl317, ↓asP_h hG.fp311_11, hG.fo318, hG.fa318, hG.fl318, ↓asP_h hG.fp311_12, hG.fo319, hG.fa319, hG.fl319, ↓asP_h hG.fp311_15, hG.fo320, hG.fa320, hG.fl320, ↓asP_h hG.fp311_16, hG.fo321, hG.fa321, hG.fl321, ↓asP_h hG.fp311_17, hG.fo322, hG.fa322, hG.fl322, ↓asP_h hG.fp311_18, hG.fo323, hG.fa323, hG.fl323, ↓asP_h hG.fp311_19, hG.fo324, hG.fa324, hG.fl324, ↓asP_h hG.fp311_22, hG.fo325, hG.fa325, hG.fl325, ↓asP_h hG.fp311_23, hG.fo326, hG.fa326, hG.fl326, ↓asP_h hG.fp311_24, hG.fo327, hG.fa327, hG.fl327, ↓asP_h hG.fp311_27, hG.fo328, hG.fa328, hG.fl328, ↓asP_h hG.fp311_28, hG.fo329, hG.fa329, hG.fl329, ↓asP_h hG.fp311_31, hG.fo330, hG.fa330, hG.fl330, ↓asP_h hG.fp311_34, hG.fo331, hG.fa331, hG.fl331, ↓asP_h hG.fp311_37, hG.fo332, hG.fa332, hG.fl332, ↓asP_h hG.fp311_38, hG.fo333, hG.fa333, hG.fl333, ↓asP_h hG.fp311_39, hG.fo334, hG.fl334, ↓asP_h hG.fp311_41, hG.fo335, hG.fa335, hG.fl335, ↓asP_h hG.fp311_42, hG.fo336, hG.fa336, hG.fl336, ↓asP_h hG.fp311_43, hG.fo337, hG.fa337, hG.fl337, e1]
          exact hQ
      by_cases c3 : c = 103 ∧ ¬ 10 ≤ K 4 1
      · have e : tcF L K a (-1) = (rgI K (rgF K L (sk (K 2) L a) (-1)).2.2 (K 4 1).toNatClampNeg, (rgF K L (sk (K 2) L a) (-1)).1, (rgF K L (sk (K 2) L a) (-1)).2.1) := by
          rw [tc_m1, hpk, if_neg c1, if_neg c2, if_pos c3]
        have hsL := pkin hpk (by rw [c3.1]; decide)
        have hg10 : g < 10 := by
          have := c3.2
          rw [t7] at this
          exact Nat.lt_of_not_le (fun z => this (nI_le (a := 10) z (by omega)))
        have ecl : (K 4 1).toNatClampNeg = g := by rw [t7, nI_clamp (by omega)]
        obtain ⟨b, row', i1, i2, i3⟩ := r_items (E := E) (d := d + 1) (J := J) hG hL t1 hb' (c := 103) (n := 4) (by decide) hv.2.2 (tt := 324) (fr := 4 * g) (N := 40) ⟨by decide, by decide⟩ hG.fo324 hG.fl324 (by omega) (by decide) (a := sk (K 2) L a + 1) (by omega) (its4 0 1 6 0 (K 14)) (fun k hk => by
          have : k = 0 ∨ k = 1 ∨ k = 2 ∨ k = 3 := by omega
          rcases this with rfl | rfl | rfl | rfl <;> rfl)
        have eR : riL (J 312) L (K 100013) 4 (K 100005) (K 100006) (4 + 1) 0 (sk (K 2) L a + 1) (-1) (its4 0 1 6 0 (K 14)) = rgF K L (sk (K 2) L a) (-1) := by
          unfold rgF
          rw [t2, show tkA L (sk (K 2) L a) = sk (K 2) L a + 1 from if_pos hsL]
        rw [eR] at i2 i3
        rw [e, ecl]
        have k33 : rgI K (rgF K L (sk (K 2) L a) (-1)).2.2 g 3 3 = K 3 3 := by
          unfold rgI
          rw [up2_ne (by decide), up2_ne (by decide), up2_ne (by decide), up2_ne (by decide), up2_ne (by decide), rwI_ne (by decide)]
        refine ⟨up2 (rwI J 324 row') 311 21 (nI (g + 1)), b, p, g + 1, i1, fun hF => ⟨(i2 hF).1, ?_⟩, fun x k hx => ?_, by rw [show (rgI K (rgF K L (sk (K 2) L a) (-1)).2.2 g, (rgF K L (sk (K 2) L a) (-1)).1, (rgF K L (sk (K 2) L a) (-1)).2.1).1 3 3 = K 3 3 from k33]; exact h3, fun Q z hQ => ?_⟩
        · show TR L p (g + 1) (rgI K (rgF K L (sk (K 2) L a) (-1)).2.2 g) (up2 (rwI J 324 row') 311 21 (nI (g + 1)))
          rw [(i2 hF).2]
          generalize (rgF K L (sk (K 2) L a) (-1)).2.2 = it
          have kk : ∀ b, b ≠ 14 → b < 8 ∨ 11 < b → b ≠ 4 → rgI K it g b = K b := fun b h1 h2 h4 => by
            unfold rgI
            rw [up2_ne h4, up2_ne (by omega), up2_ne (by omega), up2_ne (by omega), up2_ne (by omega), rwI_ne h1]
          have k4 : ∀ k, k ≠ 1 → rgI K it g 4 k = K 4 k := fun k hk => by
            unfold rgI
            rw [up2_nk hk, up2_ne (by decide), up2_ne (by decide), up2_ne (by decide), up2_ne (by decide), rwI_ne (by decide)]
          have jj : ∀ b, b ≠ 311 → b ≠ 324 → up2 (rwI J 324 (pit (J 324) (4 * g) 4 it)) 311 21 (nI (g + 1)) b = J b := fun b h1 h2 => by rw [up2_ne h1, rwI_ne h2]
          have j311 : ∀ k, k ≠ 21 → up2 (rwI J 324 (pit (J 324) (4 * g) 4 it)) 311 21 (nI (g + 1)) 311 k = J 311 k := fun k hk => by rw [up2_nk hk, rwI_ne (by decide)]
          have j324 : up2 (rwI J 324 (pit (J 324) (4 * g) 4 it)) 311 21 (nI (g + 1)) 324 = pit (J 324) (4 * g) 4 it := by rw [up2_ne (by decide), rwI_at]
          have k8 : ∀ r, r < 4 → ∀ k, rgI K it g (8 + r) k = if k = g then it r else K (8 + r) k := fun r hr k => by
            have : r = 0 ∨ r = 1 ∨ r = 2 ∨ r = 3 := by omega
            unfold rgI
            by_cases ek : k = g
            · rw [if_pos ek, ek]
              rcases this with rfl | rfl | rfl | rfl
              · rw [up2_ne (by decide), up2_ne (by decide), up2_ne (by decide), up2_ne (by decide)]; exact up2_sa _ _ _ _
              · rw [up2_ne (by decide), up2_ne (by decide), up2_ne (by decide)]; exact up2_sa _ _ _ _
              · rw [up2_ne (by decide), up2_ne (by decide)]; exact up2_sa _ _ _ _
              · rw [up2_ne (by decide)]; exact up2_sa _ _ _ _
            · rw [if_neg ek]
              have s : ∀ (X : IM) (b : Nat) (v : Int32), up2 X b g v (8 + r) k = X (8 + r) k := fun X b v => by
                by_cases eb : 8 + r = b
                · subst eb; exact up2_nk ek
                · rw [up2_ne eb]
              rw [up2_ne (by omega), s, s, s, s, rwI_ne (by omega)]
          refine ⟨?_, ?_, t3, by omega, ?_, ?_, ?_, ?_, ?_, ?_, fun q hq => ?_, fun h hh r hr => ?_⟩
          · rw [j311 2 (by decide)]; exact t1
          · rw [jj 312 (by decide) (by decide), kk 2 (by decide) (by decide) (by decide)]; exact t2
          · rw [k4 0 (by decide)]; exact t5
          · rw [j311 20 (by decide)]; exact t6
          · unfold rgI; rw [up2_sa]
          · rw [up2_sa]
          · rw [jj 322 (by decide) (by decide), k4 2 (by decide)]; exact t9
          · rw [jj 322 (by decide) (by decide), kk 7 (by decide) (by decide) (by decide)]; exact t10
          · rw [jj 323 (by decide) (by decide), kk 5 (by decide) (by decide) (by decide), kk 6 (by decide) (by decide) (by decide)]
            exact t11 q hq
          · rw [j324, k8 r hr]
            by_cases eh : h = g
            · subst eh
              rw [if_pos rfl]
              exact pit_in hr
            · rw [if_neg eh, pit_out (by omega)]
              exact t12 h (by omega) r hr
        · by_cases e311 : x = 311
          · subst e311
            rw [up2_nk (fun z => hx (by omega)), rwI_ne (by decide)]
          · rw [up2_ne e311, rwI_ne (fun z => hx (by omega))]
        · have hQ := hQ 103
          rw [show (rgI K (rgF K L (sk (K 2) L a) (-1)).2.2 g, (rgF K L (sk (K 2) L a) (-1)).1, (rgF K L (sk (K 2) L a) (-1)).2.1).1 3 3 = K 3 3 from k33] at hQ
          refine bad2 Q ?_ z
          have e21 : mI J (sk (K 2) L a) (-1) 311 21 = nI g := by rw [mI_k (by decide) (by decide)]; exact t8
          have e21' : mI J (sk (K 2) L a + 1) (-1) 311 21 = nI g := by rw [mI_k (by decide) (by decide)]; exact t8
          have e21'' : mI (rwI J 324 row') b (rgF K L (sk (K 2) L a) (-1)).2.1 311 21 = nI g := by rw [mI_k (by decide) (by decide), rwI_ne (by decide)]; exact t8
          have em : (4 : Int32) * nI g = nI (4 * g) := by rw [show (4 : Int32) = nI 4 from rfl, pk_mul]
          refine Ex.run TX11_readTown [213] 90 ?_
          simp only [↓tX11_readTown, ↓opPush, ↓opILoad, ↓opLLoad, ↓opALoad, ↓opIStore, ↓opAStore, ↓opLStore, ↓opIInc, ↓opI1, ↓opII, ↓opID, ↓opLL, ↓opLD, ↓opLI, ↓opI2L, ↓opL2I, ↓opLcmp, ↓opDup, ↓opDupX1, ↓opDup2, ↓opPop, ↓opIf1, ↓opIf2, ↓opGoto, ↓opIRet, ↓opZRet, ↓opLRet, ↓opVRet, ↓opGetI, ↓opGetL, ↓opGetR, ↓opPutI, ↓opPutZ, ↓opPutL, ↓opPutR, ↓opIALoad, ↓opBALoad, ↓opZALoad, ↓opLALoad, ↓opAALoad, ↓opIAStore, ↓opZAStore, ↓opLAStore, ↓opALen, ↓opGetS, ↓opGetC, ↓opStrV, ↓opStrC, ↓opCallV, ↓opCallS, ↓opSw, ↓opCopy, ↓opCallT, ↓opBRet, ↓opObjI, ↓opNew, ↓opNewA, ↓opANew, ↓opAAStore, ↓opMNew, ↓opCallI, ↓wp_s, ↓wp_0, ↓popI_c, ↓popL_c, ↓popR_c, ↓pop1_i, ↓pop1_r, ↓ldI_0, ↓ldI_s, ↓ldL_0, ↓ldL_s, ↓ldR_0, ↓ldR_s, ↓stL_0, ↓stL_s, ↓tk_0, ↓tk_s, ↓Kc_s, ↓Kc_n, isS_0, isS_s, asP_c, gi_0, gi_s, noL_0, noL_s, isW_n, isW_i, isW_r, rcv_c, rcvT_c, swK_0, swK_s, catS, or_false, false_or, not_false_eq_true, not_true_eq_false, true_implies, false_implies, and_true, true_and, ↓reduceIte, Nat.reduceAdd, Nat.reduceLT, Nat.reduceLeDiff, Nat.reduceEqDiff, Nat.reduceSub, forall_const, eq_self, and_self, or_true, true_or, hG.fo311, ↓asP_h hG.fp311_19, hG.fo324, hG.fa324, hG.fl324, c3.1, e21, mI_3, nI_1, show ¬ (10 : Int32) ≤ nI g from nI_ge (a := g) (b := 10) hg10 (by decide)]
          rw [mI_u3, e21', em]
          refine ⟨_, _, _, _, rfl, i3, ?_⟩
          simp only [↓tX11_readTown, ↓opPush, ↓opILoad, ↓opLLoad, ↓opALoad, ↓opIStore, ↓opAStore, ↓opLStore, ↓opIInc, ↓opI1, ↓opII, ↓opID, ↓opLL, ↓opLD, ↓opLI, ↓opI2L, ↓opL2I, ↓opLcmp, ↓opDup, ↓opDupX1, ↓opDup2, ↓opPop, ↓opIf1, ↓opIf2, ↓opGoto, ↓opIRet, ↓opZRet, ↓opLRet, ↓opVRet, ↓opGetI, ↓opGetL, ↓opGetR, ↓opPutI, ↓opPutZ, ↓opPutL, ↓opPutR, ↓opIALoad, ↓opBALoad, ↓opZALoad, ↓opLALoad, ↓opAALoad, ↓opIAStore, ↓opZAStore, ↓opLAStore, ↓opALen, ↓opGetS, ↓opGetC, ↓opStrV, ↓opStrC, ↓opCallV, ↓opCallS, ↓opSw, ↓opCopy, ↓opCallT, ↓opBRet, ↓opObjI, ↓opNew, ↓opNewA, ↓opANew, ↓opAAStore, ↓opMNew, ↓opCallI, ↓wp_s, ↓wp_0, ↓popI_c, ↓popL_c, ↓popR_c, ↓pop1_i, ↓pop1_r, ↓ldI_0, ↓ldI_s, ↓ldL_0, ↓ldL_s, ↓ldR_0, ↓ldR_s, ↓stL_0, ↓stL_s, ↓tk_0, ↓tk_s, ↓Kc_s, ↓Kc_n, isS_0, isS_s, asP_c, gi_0, gi_s, noL_0, noL_s, isW_n, isW_i, isW_r, rcv_c, rcvT_c, swK_0, swK_s, catS, or_false, false_or, not_false_eq_true, not_true_eq_false, true_implies, false_implies, and_true, true_and, ↓reduceIte, Nat.reduceAdd, Nat.reduceLT, Nat.reduceLeDiff, Nat.reduceEqDiff, Nat.reduceSub, forall_const, eq_self, and_self, or_true, true_or, hG.fo311, ↓asP_h hG.fp311_1, hG.fo312, hG.fa312, hG.fl312, ↓asP_h hG.fp311_6, hG.fo313, hG.fa313, hG.fl313, ↓asP_h hG.fp311_7, hG.fo314, hG.fa314, hG.fl314, ↓asP_h hG.fp311_8, hG.fo315, hG.fa315, hG.fl315, ↓asP_h hG.fp311_9, hG.fo316, hG.fa316, hG.fl316, ↓asP_h hG.fp311_10, hG.fo317, hG.fa317, hG.fl317, ↓asP_h hG.fp311_11, hG.fo318, hG.fa318, hG.fl318, ↓asP_h hG.fp311_12, hG.fo319, hG.fa319, hG.fl319, ↓asP_h hG.fp311_15, hG.fo320, hG.fa320, hG.fl320, ↓asP_h hG.fp311_16, hG.fo321, hG.fa321, hG.fl321, ↓asP_h hG.fp311_17, hG.fo322, hG.fa322, hG.fl322, ↓asP_h hG.fp311_18, hG.fo323, hG.fa323, hG.fl323, ↓asP_h hG.fp311_19, hG.fo324, hG.fa324, hG.fl324, ↓asP_h hG.fp311_22, hG.fo325, hG.fa325, hG.fl325, ↓asP_h hG.fp311_23, hG.fo326, hG.fa326, hG.fl326, ↓asP_h hG.fp311_24, hG.fo327, hG.fa327, hG.fl327, ↓asP_h hG.fp311_27, hG.fo328, hG.fa328, hG.fl328, ↓asP_h hG.fp311_28, hG.fo329, hG.fa329, hG.fl329, ↓asP_h hG.fp311_31, hG.fo330, hG.fa330, hG.fl330, ↓asP_h hG.fp311_34, hG.fo331, hG.fa331, hG.fl331, ↓asP_h hG.fp311_37, hG.fo332, hG.fa332, hG.fl332, ↓asP_h hG.fp311_38, hG.fo333, hG.fa333, hG.fl333, ↓asP_h hG.fp311_39, hG.fo334, hG.fl334, ↓asP_h hG.fp311_41, hG.fo335, hG.fa335, hG.fl335, ↓asP_h hG.fp311_42, hG.fo336, hG.fa336, hG.fl336, ↓asP_h hG.fp311_43, hG.fo337, hG.fa337, hG.fl337, e21'', nI_1]
          rw [mI_uk (by decide) (by decide)]
          exact hQ
      · have e : tcF L K a (-1) = (K, sk (K 2) L a, nI (sk (K 2) L a)) := by
          rw [tc_m1, hpk, if_neg c1, if_neg c2, if_neg c3]
        rw [e]
        refine ⟨J, sk (K 2) L a, p, g, hs.2, fun hF => absurd hF (nI_m1 (by omega)), fun _ _ _ => rfl, h3, fun Q z hQ => ?_⟩
        refine bad2 Q ?_ z
        have e21 : mI J (sk (K 2) L a) (-1) 311 21 = nI g := by rw [mI_k (by decide) (by decide)]; exact t8
        have lst : Ex E (d + 5) mX11_readTown Q 209 [some (.ref 311), some (.int (K 3 3)), some (.int 1), some (.int c)] [] (0, 0) G (mI J (sk (K 2) L a) (-1)) := by
          refine Ex.run TX11_readTown [213] 60 ?_
          simp only [↓tX11_readTown, ↓opPush, ↓opILoad, ↓opLLoad, ↓opALoad, ↓opIStore, ↓opAStore, ↓opLStore, ↓opIInc, ↓opI1, ↓opII, ↓opID, ↓opLL, ↓opLD, ↓opLI, ↓opI2L, ↓opL2I, ↓opLcmp, ↓opDup, ↓opDupX1, ↓opDup2, ↓opPop, ↓opIf1, ↓opIf2, ↓opGoto, ↓opIRet, ↓opZRet, ↓opLRet, ↓opVRet, ↓opGetI, ↓opGetL, ↓opGetR, ↓opPutI, ↓opPutZ, ↓opPutL, ↓opPutR, ↓opIALoad, ↓opBALoad, ↓opZALoad, ↓opLALoad, ↓opAALoad, ↓opIAStore, ↓opZAStore, ↓opLAStore, ↓opALen, ↓opGetS, ↓opGetC, ↓opStrV, ↓opStrC, ↓opCallV, ↓opCallS, ↓opSw, ↓opCopy, ↓opCallT, ↓opBRet, ↓opObjI, ↓opNew, ↓opNewA, ↓opANew, ↓opAAStore, ↓opMNew, ↓opCallI, ↓wp_s, ↓wp_0, ↓popI_c, ↓popL_c, ↓popR_c, ↓pop1_i, ↓pop1_r, ↓ldI_0, ↓ldI_s, ↓ldL_0, ↓ldL_s, ↓ldR_0, ↓ldR_s, ↓stL_0, ↓stL_s, ↓tk_0, ↓tk_s, ↓Kc_s, ↓Kc_n, isS_0, isS_s, asP_c, gi_0, gi_s, noL_0, noL_s, isW_n, isW_i, isW_r, rcv_c, rcvT_c, swK_0, swK_s, catS, or_false, false_or, not_false_eq_true, not_true_eq_false, true_implies, false_implies, and_true, true_and, ↓reduceIte, Nat.reduceAdd, Nat.reduceLT, Nat.reduceLeDiff, Nat.reduceEqDiff, Nat.reduceSub, forall_const, eq_self, and_self, or_true, true_or, hG.fo311, ↓asP_h hG.fp311_1, hG.fo312, hG.fa312, hG.fl312, ↓asP_h hG.fp311_6, hG.fo313, hG.fa313, hG.fl313, ↓asP_h hG.fp311_7, hG.fo314, hG.fa314, hG.fl314, ↓asP_h hG.fp311_8, hG.fo315, hG.fa315, hG.fl315, ↓asP_h hG.fp311_9, hG.fo316, hG.fa316, hG.fl316, ↓asP_h hG.fp311_10, hG.fo317, hG.fa317, hG.fl317, ↓asP_h hG.fp311_11, hG.fo318, hG.fa318, hG.fl318, ↓asP_h hG.fp311_12, hG.fo319, hG.fa319, hG.fl319, ↓asP_h hG.fp311_15, hG.fo320, hG.fa320, hG.fl320, ↓asP_h hG.fp311_16, hG.fo321, hG.fa321, hG.fl321, ↓asP_h hG.fp311_17, hG.fo322, hG.fa322, hG.fl322, ↓asP_h hG.fp311_18, hG.fo323, hG.fa323, hG.fl323, ↓asP_h hG.fp311_19, hG.fo324, hG.fa324, hG.fl324, ↓asP_h hG.fp311_22, hG.fo325, hG.fa325, hG.fl325, ↓asP_h hG.fp311_23, hG.fo326, hG.fa326, hG.fl326, ↓asP_h hG.fp311_24, hG.fo327, hG.fa327, hG.fl327, ↓asP_h hG.fp311_27, hG.fo328, hG.fa328, hG.fl328, ↓asP_h hG.fp311_28, hG.fo329, hG.fa329, hG.fl329, ↓asP_h hG.fp311_31, hG.fo330, hG.fa330, hG.fl330, ↓asP_h hG.fp311_34, hG.fo331, hG.fa331, hG.fl331, ↓asP_h hG.fp311_37, hG.fo332, hG.fa332, hG.fl332, ↓asP_h hG.fp311_38, hG.fo333, hG.fa333, hG.fl333, ↓asP_h hG.fp311_39, hG.fo334, hG.fl334, ↓asP_h hG.fp311_41, hG.fo335, hG.fa335, hG.fl335, ↓asP_h hG.fp311_42, hG.fo336, hG.fa336, hG.fl336, ↓asP_h hG.fp311_43, hG.fo337, hG.fa337, hG.fl337]
          refine ⟨_, _, _, _, rfl, r_bad hG _ (-1), ?_⟩
          simp only [↓tX11_readTown, ↓opPush, ↓opILoad, ↓opLLoad, ↓opALoad, ↓opIStore, ↓opAStore, ↓opLStore, ↓opIInc, ↓opI1, ↓opII, ↓opID, ↓opLL, ↓opLD, ↓opLI, ↓opI2L, ↓opL2I, ↓opLcmp, ↓opDup, ↓opDupX1, ↓opDup2, ↓opPop, ↓opIf1, ↓opIf2, ↓opGoto, ↓opIRet, ↓opZRet, ↓opLRet, ↓opVRet, ↓opGetI, ↓opGetL, ↓opGetR, ↓opPutI, ↓opPutZ, ↓opPutL, ↓opPutR, ↓opIALoad, ↓opBALoad, ↓opZALoad, ↓opLALoad, ↓opAALoad, ↓opIAStore, ↓opZAStore, ↓opLAStore, ↓opALen, ↓opGetS, ↓opGetC, ↓opStrV, ↓opStrC, ↓opCallV, ↓opCallS, ↓opSw, ↓opCopy, ↓opCallT, ↓opBRet, ↓opObjI, ↓opNew, ↓opNewA, ↓opANew, ↓opAAStore, ↓opMNew, ↓opCallI, ↓wp_s, ↓wp_0, ↓popI_c, ↓popL_c, ↓popR_c, ↓pop1_i, ↓pop1_r, ↓ldI_0, ↓ldI_s, ↓ldL_0, ↓ldL_s, ↓ldR_0, ↓ldR_s, ↓stL_0, ↓stL_s, ↓tk_0, ↓tk_s, ↓Kc_s, ↓Kc_n, isS_0, isS_s, asP_c, gi_0, gi_s, noL_0, noL_s, isW_n, isW_i, isW_r, rcv_c, rcvT_c, swK_0, swK_s, catS, or_false, false_or, not_false_eq_true, not_true_eq_false, true_implies, false_implies, and_true, true_and, ↓reduceIte, Nat.reduceAdd, Nat.reduceLT, Nat.reduceLeDiff, Nat.reduceEqDiff, Nat.reduceSub, forall_const, eq_self, and_self, or_true, true_or]
          exact hQ c
        refine Ex.run TX11_readTown [209] 60 ?_
        by_cases e1 : c = 103
        · have e2 : (10 : Int32) ≤ nI g := by
            have := fun z => c3 ⟨e1, z⟩
            rw [t7] at this
            exact Decidable.not_not.mp this
          simp only [↓tX11_readTown, ↓opPush, ↓opILoad, ↓opLLoad, ↓opALoad, ↓opIStore, ↓opAStore, ↓opLStore, ↓opIInc, ↓opI1, ↓opII, ↓opID, ↓opLL, ↓opLD, ↓opLI, ↓opI2L, ↓opL2I, ↓opLcmp, ↓opDup, ↓opDupX1, ↓opDup2, ↓opPop, ↓opIf1, ↓opIf2, ↓opGoto, ↓opIRet, ↓opZRet, ↓opLRet, ↓opVRet, ↓opGetI, ↓opGetL, ↓opGetR, ↓opPutI, ↓opPutZ, ↓opPutL, ↓opPutR, ↓opIALoad, ↓opBALoad, ↓opZALoad, ↓opLALoad, ↓opAALoad, ↓opIAStore, ↓opZAStore, ↓opLAStore, ↓opALen, ↓opGetS, ↓opGetC, ↓opStrV, ↓opStrC, ↓opCallV, ↓opCallS, ↓opSw, ↓opCopy, ↓opCallT, ↓opBRet, ↓opObjI, ↓opNew, ↓opNewA, ↓opANew, ↓opAAStore, ↓opMNew, ↓opCallI, ↓wp_s, ↓wp_0, ↓popI_c, ↓popL_c, ↓popR_c, ↓pop1_i, ↓pop1_r, ↓ldI_0, ↓ldI_s, ↓ldL_0, ↓ldL_s, ↓ldR_0, ↓ldR_s, ↓stL_0, ↓stL_s, ↓tk_0, ↓tk_s, ↓Kc_s, ↓Kc_n, isS_0, isS_s, asP_c, gi_0, gi_s, noL_0, noL_s, isW_n, isW_i, isW_r, rcv_c, rcvT_c, swK_0, swK_s, catS, or_false, false_or, not_false_eq_true, not_true_eq_false, true_implies, false_implies, and_true, true_and, ↓reduceIte, Nat.reduceAdd, Nat.reduceLT, Nat.reduceLeDiff, Nat.reduceEqDiff, Nat.reduceSub, forall_const, eq_self, and_self, or_true, true_or, hG.fo311, ↓asP_h hG.fp311_1, hG.fo312, hG.fa312, hG.fl312, ↓asP_h hG.fp311_6, hG.fo313, hG.fa313, hG.fl313, ↓asP_h hG.fp311_7, hG.fo314, hG.fa314, hG.fl314, ↓asP_h hG.fp311_8, hG.fo315, hG.fa315, hG.fl315, ↓asP_h hG.fp311_9, hG.fo316, hG.fa316, hG.fl316, ↓asP_h hG.fp311_10, hG.fo317, hG.fa317, hG.fl317, ↓asP_h hG.fp311_11, hG.fo318, hG.fa318, hG.fl318, ↓asP_h hG.fp311_12, hG.fo319, hG.fa319, hG.fl319, ↓asP_h hG.fp311_15, hG.fo320, hG.fa320, hG.fl320, ↓asP_h hG.fp311_16, hG.fo321, hG.fa321, hG.fl321, ↓asP_h hG.fp311_17, hG.fo322, hG.fa322, hG.fl322, ↓asP_h hG.fp311_18, hG.fo323, hG.fa323, hG.fl323, ↓asP_h hG.fp311_19, hG.fo324, hG.fa324, hG.fl324, ↓asP_h hG.fp311_22, hG.fo325, hG.fa325, hG.fl325, ↓asP_h hG.fp311_23, hG.fo326, hG.fa326, hG.fl326, ↓asP_h hG.fp311_24, hG.fo327, hG.fa327, hG.fl327, ↓asP_h hG.fp311_27, hG.fo328, hG.fa328, hG.fl328, ↓asP_h hG.fp311_28, hG.fo329, hG.fa329, hG.fl329, ↓asP_h hG.fp311_31, hG.fo330, hG.fa330, hG.fl330, ↓asP_h hG.fp311_34, hG.fo331, hG.fa331, hG.fl331, ↓asP_h hG.fp311_37, hG.fo332, hG.fa332, hG.fl332, ↓asP_h hG.fp311_38, hG.fo333, hG.fa333, hG.fl333, ↓asP_h hG.fp311_39, hG.fo334, hG.fl334, ↓asP_h hG.fp311_41, hG.fo335, hG.fa335, hG.fl335, ↓asP_h hG.fp311_42, hG.fo336, hG.fa336, hG.fl336, ↓asP_h hG.fp311_43, hG.fo337, hG.fa337, hG.fl337, e1, e21, e2]
          rw [e1] at lst
          exact lst
        · simp only [↓tX11_readTown, ↓opPush, ↓opILoad, ↓opLLoad, ↓opALoad, ↓opIStore, ↓opAStore, ↓opLStore, ↓opIInc, ↓opI1, ↓opII, ↓opID, ↓opLL, ↓opLD, ↓opLI, ↓opI2L, ↓opL2I, ↓opLcmp, ↓opDup, ↓opDupX1, ↓opDup2, ↓opPop, ↓opIf1, ↓opIf2, ↓opGoto, ↓opIRet, ↓opZRet, ↓opLRet, ↓opVRet, ↓opGetI, ↓opGetL, ↓opGetR, ↓opPutI, ↓opPutZ, ↓opPutL, ↓opPutR, ↓opIALoad, ↓opBALoad, ↓opZALoad, ↓opLALoad, ↓opAALoad, ↓opIAStore, ↓opZAStore, ↓opLAStore, ↓opALen, ↓opGetS, ↓opGetC, ↓opStrV, ↓opStrC, ↓opCallV, ↓opCallS, ↓opSw, ↓opCopy, ↓opCallT, ↓opBRet, ↓opObjI, ↓opNew, ↓opNewA, ↓opANew, ↓opAAStore, ↓opMNew, ↓opCallI, ↓wp_s, ↓wp_0, ↓popI_c, ↓popL_c, ↓popR_c, ↓pop1_i, ↓pop1_r, ↓ldI_0, ↓ldI_s, ↓ldL_0, ↓ldL_s, ↓ldR_0, ↓ldR_s, ↓stL_0, ↓stL_s, ↓tk_0, ↓tk_s, ↓Kc_s, ↓Kc_n, isS_0, isS_s, asP_c, gi_0, gi_s, noL_0, noL_s, isW_n, isW_i, isW_r, rcv_c, rcvT_c, swK_0, swK_s, catS, or_false, false_or, not_false_eq_true, not_true_eq_false, true_implies, false_implies, and_true, true_and, ↓reduceIte, Nat.reduceAdd, Nat.reduceLT, Nat.reduceLeDiff, Nat.reduceEqDiff, Nat.reduceSub, forall_const, eq_self, and_self, or_true, true_or, hG.fo311, ↓asP_h hG.fp311_1, hG.fo312, hG.fa312, hG.fl312, ↓asP_h hG.fp311_6, hG.fo313, hG.fa313, hG.fl313, ↓asP_h hG.fp311_7, hG.fo314, hG.fa314, hG.fl314, ↓asP_h hG.fp311_8, hG.fo315, hG.fa315, hG.fl315, ↓asP_h hG.fp311_9, hG.fo316, hG.fa316, hG.fl316, ↓asP_h hG.fp311_10, hG.fo317, hG.fa317, hG.fl317, ↓asP_h hG.fp311_11, hG.fo318, hG.fa318, hG.fl318, ↓asP_h hG.fp311_12, hG.fo319, hG.fa319, hG.fl319, ↓asP_h hG.fp311_15, hG.fo320, hG.fa320, hG.fl320, ↓asP_h hG.fp311_16, hG.fo321, hG.fa321, hG.fl321, ↓asP_h hG.fp311_17, hG.fo322, hG.fa322, hG.fl322, ↓asP_h hG.fp311_18, hG.fo323, hG.fa323, hG.fl323, ↓asP_h hG.fp311_19, hG.fo324, hG.fa324, hG.fl324, ↓asP_h hG.fp311_22, hG.fo325, hG.fa325, hG.fl325, ↓asP_h hG.fp311_23, hG.fo326, hG.fa326, hG.fl326, ↓asP_h hG.fp311_24, hG.fo327, hG.fa327, hG.fl327, ↓asP_h hG.fp311_27, hG.fo328, hG.fa328, hG.fl328, ↓asP_h hG.fp311_28, hG.fo329, hG.fa329, hG.fl329, ↓asP_h hG.fp311_31, hG.fo330, hG.fa330, hG.fl330, ↓asP_h hG.fp311_34, hG.fo331, hG.fa331, hG.fl331, ↓asP_h hG.fp311_37, hG.fo332, hG.fa332, hG.fl332, ↓asP_h hG.fp311_38, hG.fo333, hG.fa333, hG.fl333, ↓asP_h hG.fp311_39, hG.fo334, hG.fl334, ↓asP_h hG.fp311_41, hG.fo335, hG.fa335, hG.fl335, ↓asP_h hG.fp311_42, hG.fo336, hG.fa336, hG.fl336, ↓asP_h hG.fp311_43, hG.fo337, hG.fa337, hG.fl337, e1]
          exact lst
end
