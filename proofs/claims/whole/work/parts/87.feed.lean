/-! ===== the reference: feed ===== -/
def byW (a b c e f : Int32) (k : Nat) : Int32 := if k < 4 then a else if k < 8 then b else if k < 12 then c else if k < 16 then e else f
def bk (a b c e f : Int32) (k : Nat) : Int32 := byt (byW a b c e f k) (nI (24 - 8 * (k % 4)))
def tp1 (I : IM) (x : Int32) : IM := if x = 0 then I else up2 (up2 I 312 (I 311 2).toNatClampNeg x) 311 2 (I 311 2 + 1)
def bcN (g : Nat → Int32) : Nat → Nat
  | 0 => 0
  | n + 1 => bcN g n + (if g n = 0 then 0 else 1)
theorem sh_ix : ∀ k, k < 20 → (24 : Int32) - 8 * (nI k - nI k / 4 * 4) = nI (24 - 8 * (k % 4)) := by decide +kernel
theorem sm8 : ∀ s, s = 0 ∨ s = 8 ∨ s = 16 ∨ s = 24 → (nI s &&& 31).toBitVec.smod 32 = BitVec.ofNat 32 s ∧ ((nI s).toUInt32 &&& Int32.toUInt32 31).toBitVec % 32 = BitVec.ofNat 32 s := by
  rintro s (rfl | rfl | rfl | rfl) <;> decide
theorem bit255 : ∀ i, i < 32 → (255 : Int32).toBitVec.getLsbD i = decide (i < 8) := by decide
theorem sh8 (x : Int32) {s : Nat} (hs : s = 0 ∨ s = 8 ∨ s = 16 ∨ s = 24) : (x >>> (nI s &&& 31)) &&& 255 = byt x (nI s) := by
  obtain ⟨e1, e2⟩ := sm8 s hs
  unfold byt ush
  apply Int32.toBitVec_inj.mp
  rw [Int32.toBitVec_and, Int32.toBitVec_and, Int32.toBitVec_shiftRight, e1, BitVec.sshiftRight_eq']
  apply BitVec.eq_of_getLsbD_eq
  intro i hi
  rw [BitVec.getLsbD_and, BitVec.getLsbD_and, bit255 i hi, BitVec.getLsbD_sshiftRight]
  by_cases c : i < 8
  · have e3 : ((x.toUInt32 >>> ((nI s).toUInt32 &&& Int32.toUInt32 31)).toInt32.toBitVec).getLsbD i = x.toBitVec.getLsbD (s + i) := by
      show ((x.toUInt32 >>> ((nI s).toUInt32 &&& Int32.toUInt32 31)).toBitVec).getLsbD i = _
      rw [UInt32.toBitVec_shiftRight, e2]
      show ((x.toBitVec) >>> (BitVec.ofNat 32 s)).getLsbD i = _
      rw [BitVec.ushiftRight_eq', BitVec.getLsbD_ushiftRight, BitVec.toNat_ofNat, Nat.mod_eq_of_lt (by omega)]
    rw [e3, BitVec.toNat_ofNat, Nat.mod_eq_of_lt (by omega)]
    have h1 : decide (32 ≤ i) = false := by simp; omega
    have h2 : s + i < 32 := by omega
    simp [h2, c]
    omega
  · simp [c]
section
variable {E : EV} {d : Nat} {G : GD} {I : IM}
set_option maxRecDepth 100000 in
set_option maxHeartbeats 4000000 in
theorem r_byteOf (a b c e f : Int32) {k : Nat} (hk : k < 20) : Run E d mX11_byteOf [.int a, .int b, .int c, .int e, .int f, .int (nI k)] (0, 0) G I (some (.int (bk a b c e f k))) G I := by
  have hs : (24 - 8 * (k % 4)) = 0 ∨ (24 - 8 * (k % 4)) = 8 ∨ (24 - 8 * (k % 4)) = 16 ∨ (24 - 8 * (k % 4)) = 24 := by omega
  have fin : ∀ w, w = byW a b c e f k → Ex E d mX11_byteOf (fun x y z => x = some (.int (bk a b c e f k)) ∧ y = G ∧ z = I) 45 [some (.int a), some (.int b), some (.int c), some (.int e), some (.int f), some (.int (nI k)), none] [.int w] (0, 0) G I := by
    intro w hw
    refine Ex.run TX11_byteOf [] 60 ?_
    simp only [↓tX11_byteOf, ↓opPush, ↓opILoad, ↓opLLoad, ↓opALoad, ↓opIStore, ↓opAStore, ↓opLStore, ↓opIInc, ↓opI1, ↓opII, ↓opID, ↓opLL, ↓opLD, ↓opLI, ↓opI2L, ↓opL2I, ↓opLcmp, ↓opDup, ↓opDupX1, ↓opDup2, ↓opPop, ↓opIf1, ↓opIf2, ↓opGoto, ↓opIRet, ↓opZRet, ↓opLRet, ↓opVRet, ↓opGetI, ↓opGetL, ↓opGetR, ↓opPutI, ↓opPutZ, ↓opPutL, ↓opPutR, ↓opIALoad, ↓opBALoad, ↓opZALoad, ↓opLALoad, ↓opAALoad, ↓opIAStore, ↓opZAStore, ↓opLAStore, ↓opALen, ↓opGetS, ↓opGetC, ↓opStrV, ↓opStrC, ↓opCallV, ↓opCallS, ↓opSw, ↓opCopy, ↓opCallT, ↓opBRet, ↓opObjI, ↓opNew, ↓opNewA, ↓opANew, ↓opAAStore, ↓opMNew, ↓opCallI, ↓wp_s, ↓wp_0, ↓popI_c, ↓popL_c, ↓popR_c, ↓pop1_i, ↓pop1_r, ↓ldI_0, ↓ldI_s, ↓ldL_0, ↓ldL_s, ↓ldR_0, ↓ldR_s, ↓stL_0, ↓stL_s, ↓tk_0, ↓tk_s, ↓Kc_s, ↓Kc_n, isS_0, isS_s, asP_c, gi_0, gi_s, noL_0, noL_s, isW_n, isW_i, isW_r, rcv_c, rcvT_c, swK_0, swK_s, catS, or_false, false_or, not_false_eq_true, not_true_eq_false, true_implies, false_implies, and_true, true_and, ↓reduceIte, Nat.reduceAdd, Nat.reduceLT, Nat.reduceLeDiff, Nat.reduceEqDiff, Nat.reduceSub, forall_const, eq_self, and_self, or_true, true_or, show ¬ (4 : Int32) = 0 by decide, sh_ix k hk]
    rw [sh8 w hs, hw]
    rfl
  have l4 : (4 : Int32) ≤ nI k ↔ 4 ≤ k := nI_leI (a := 4) (by decide) (by omega)
  have l8 : (8 : Int32) ≤ nI k ↔ 8 ≤ k := nI_leI (a := 8) (by decide) (by omega)
  have l12 : (12 : Int32) ≤ nI k ↔ 12 ≤ k := nI_leI (a := 12) (by decide) (by omega)
  have l16 : (16 : Int32) ≤ nI k ↔ 16 ≤ k := nI_leI (a := 16) (by decide) (by omega)
  refine Ct.run okX11_byteOf TX11_byteOf [45] 60 rfl rfl ?_
  simp only [↓tX11_byteOf, ↓opPush, ↓opILoad, ↓opLLoad, ↓opALoad, ↓opIStore, ↓opAStore, ↓opLStore, ↓opIInc, ↓opI1, ↓opII, ↓opID, ↓opLL, ↓opLD, ↓opLI, ↓opI2L, ↓opL2I, ↓opLcmp, ↓opDup, ↓opDupX1, ↓opDup2, ↓opPop, ↓opIf1, ↓opIf2, ↓opGoto, ↓opIRet, ↓opZRet, ↓opLRet, ↓opVRet, ↓opGetI, ↓opGetL, ↓opGetR, ↓opPutI, ↓opPutZ, ↓opPutL, ↓opPutR, ↓opIALoad, ↓opBALoad, ↓opZALoad, ↓opLALoad, ↓opAALoad, ↓opIAStore, ↓opZAStore, ↓opLAStore, ↓opALen, ↓opGetS, ↓opGetC, ↓opStrV, ↓opStrC, ↓opCallV, ↓opCallS, ↓opSw, ↓opCopy, ↓opCallT, ↓opBRet, ↓opObjI, ↓opNew, ↓opNewA, ↓opANew, ↓opAAStore, ↓opMNew, ↓opCallI, ↓wp_s, ↓wp_0, ↓popI_c, ↓popL_c, ↓popR_c, ↓pop1_i, ↓pop1_r, ↓ldI_0, ↓ldI_s, ↓ldL_0, ↓ldL_s, ↓ldR_0, ↓ldR_s, ↓stL_0, ↓stL_s, ↓tk_0, ↓tk_s, ↓Kc_s, ↓Kc_n, isS_0, isS_s, asP_c, gi_0, gi_s, noL_0, noL_s, isW_n, isW_i, isW_r, rcv_c, rcvT_c, swK_0, swK_s, catS, or_false, false_or, not_false_eq_true, not_true_eq_false, true_implies, false_implies, and_true, true_and, ↓reduceIte, Nat.reduceAdd, Nat.reduceLT, Nat.reduceLeDiff, Nat.reduceEqDiff, Nat.reduceSub, forall_const, eq_self, and_self, or_true, true_or, lve_i, lve_r, lve_l, lve_0, List.replicate_succ, List.replicate_zero, mX, mX11_byteOf, l4, l8, l12, l16]
  refine ⟨fun c4 => ⟨fun c8 => ⟨fun c12 => ⟨fun c16 => fin f ?_, fun c16 => fin e ?_⟩, fun c12 => fin c ?_⟩, fun c8 => fin b ?_⟩, fun c4 => fin a ?_⟩
  · unfold byW
    rw [if_neg (by omega), if_neg (by omega), if_neg (by omega), if_neg (by omega)]
  · unfold byW
    rw [if_neg (by omega), if_neg (by omega), if_neg (by omega), if_pos (by omega)]
  · unfold byW
    rw [if_neg (by omega), if_neg (by omega), if_pos (by omega)]
  · unfold byW
    rw [if_neg (by omega), if_pos (by omega)]
  · unfold byW
    rw [if_pos (by omega)]
theorem bcN_le (g : Nat → Int32) : ∀ n, bcN g n ≤ n
  | 0 => Nat.le_refl _
  | n + 1 => by
    show bcN g n + (if g n = 0 then 0 else 1) ≤ n + 1
    have := bcN_le g n
    split <;> omega
set_option maxRecDepth 100000 in
set_option maxHeartbeats 4000000 in
theorem r_feed (hG : GTs G) {S : Nat} (hS : S ≤ 240) (hI : I 311 2 = nI S) (a b c e f : Int32) : Run E (d + 1) mX11_feed [.ref 311, .int a, .int b, .int c, .int e, .int f] (0, 0) G I (some (.int (if S + bcN (bk a b c e f) 20 ≤ 240 then nI (S + bcN (bk a b c e f) 20) else -1))) G (if S + bcN (bk a b c e f) 20 ≤ 240 then foldN (fun k J => tp1 J (bk a b c e f k)) 20 I else I) := by
  generalize hg : bk a b c e f = g
  have by1 : ∀ (J : IM) (k : Nat), k < 20 → Run E d mX11_byteOf [.int a, .int b, .int c, .int e, .int f, .int (nI k)] (0, 0) G J (some (.int (g k))) G J := fun J k hk => by
    rw [← hg]
    exact r_byteOf a b c e f hk
  generalize hQ : (fun x y z => x = some (.int (if S + bcN g 20 ≤ 240 then nI (S + bcN g 20) else -1)) ∧ y = G ∧ z = (if S + bcN g 20 ≤ 240 then foldN (fun k J => tp1 J (g k)) 20 I else I) : QT) = Q
  -- appending
  have app : S + bcN g 20 ≤ 240 → ∀ k, k ≤ 20 → ∀ J : IM, J = foldN (fun k J => tp1 J (g k)) k I → J 311 2 = nI (S + bcN g k) → ∀ z, Ex E (d + 1) mX11_feed Q 62 [some (.ref 311), some (.int a), some (.int b), some (.int c), some (.int e), some (.int f), some (.int (nI (bcN g 20))), some (.int (nI k)), z] [] (0, 0) G J := by
    intro hok
    refine dn ?_ ?_
    · intro J hJ h2 z
      refine Ex.run TX11_feed [62] 60 ?_
      simp only [↓tX11_feed, ↓opPush, ↓opILoad, ↓opLLoad, ↓opALoad, ↓opIStore, ↓opAStore, ↓opLStore, ↓opIInc, ↓opI1, ↓opII, ↓opID, ↓opLL, ↓opLD, ↓opLI, ↓opI2L, ↓opL2I, ↓opLcmp, ↓opDup, ↓opDupX1, ↓opDup2, ↓opPop, ↓opIf1, ↓opIf2, ↓opGoto, ↓opIRet, ↓opZRet, ↓opLRet, ↓opVRet, ↓opGetI, ↓opGetL, ↓opGetR, ↓opPutI, ↓opPutZ, ↓opPutL, ↓opPutR, ↓opIALoad, ↓opBALoad, ↓opZALoad, ↓opLALoad, ↓opAALoad, ↓opIAStore, ↓opZAStore, ↓opLAStore, ↓opALen, ↓opGetS, ↓opGetC, ↓opStrV, ↓opStrC, ↓opCallV, ↓opCallS, ↓opSw, ↓opCopy, ↓opCallT, ↓opBRet, ↓opObjI, ↓opNew, ↓opNewA, ↓opANew, ↓opAAStore, ↓opMNew, ↓opCallI, ↓wp_s, ↓wp_0, ↓popI_c, ↓popL_c, ↓popR_c, ↓pop1_i, ↓pop1_r, ↓ldI_0, ↓ldI_s, ↓ldL_0, ↓ldL_s, ↓ldR_0, ↓ldR_s, ↓stL_0, ↓stL_s, ↓tk_0, ↓tk_s, ↓Kc_s, ↓Kc_n, isS_0, isS_s, asP_c, gi_0, gi_s, noL_0, noL_s, isW_n, isW_i, isW_r, rcv_c, rcvT_c, swK_0, swK_s, catS, or_false, false_or, not_false_eq_true, not_true_eq_false, true_implies, false_implies, and_true, true_and, ↓reduceIte, Nat.reduceAdd, Nat.reduceLT, Nat.reduceLeDiff, Nat.reduceEqDiff, Nat.reduceSub, forall_const, eq_self, and_self, or_true, true_or, lpT (N := 20) (n := 20) rfl, hG.fo311, ↓asP_h hG.fp311_1, hG.fo312, hG.fa312, hG.fl312, ↓asP_h hG.fp311_6, hG.fo313, hG.fa313, hG.fl313, ↓asP_h hG.fp311_7, hG.fo314, hG.fa314, hG.fl314, ↓asP_h hG.fp311_8, hG.fo315, hG.fa315, hG.fl315, ↓asP_h hG.fp311_9, hG.fo316, hG.fa316, hG.fl316, ↓asP_h hG.fp311_10, hG.fo317, hG.fa317, hG.fl317, ↓asP_h hG.fp311_11, hG.fo318, hG.fa318, hG.fl318, ↓asP_h hG.fp311_12, hG.fo319, hG.fa319, hG.fl319, ↓asP_h hG.fp311_15, hG.fo320, hG.fa320, hG.fl320, ↓asP_h hG.fp311_16, hG.fo321, hG.fa321, hG.fl321, ↓asP_h hG.fp311_17, hG.fo322, hG.fa322, hG.fl322, ↓asP_h hG.fp311_18, hG.fo323, hG.fa323, hG.fl323, ↓asP_h hG.fp311_19, hG.fo324, hG.fa324, hG.fl324, ↓asP_h hG.fp311_22, hG.fo325, hG.fa325, hG.fl325, ↓asP_h hG.fp311_23, hG.fo326, hG.fa326, hG.fl326, ↓asP_h hG.fp311_24, hG.fo327, hG.fa327, hG.fl327, ↓asP_h hG.fp311_27, hG.fo328, hG.fa328, hG.fl328, ↓asP_h hG.fp311_28, hG.fo329, hG.fa329, hG.fl329, ↓asP_h hG.fp311_31, hG.fo330, hG.fa330, hG.fl330, ↓asP_h hG.fp311_34, hG.fo331, hG.fa331, hG.fl331, ↓asP_h hG.fp311_37, hG.fo332, hG.fa332, hG.fl332, ↓asP_h hG.fp311_38, hG.fo333, hG.fa333, hG.fl333, ↓asP_h hG.fp311_39, hG.fo334, hG.fl334, ↓asP_h hG.fp311_41, hG.fo335, hG.fa335, hG.fl335, ↓asP_h hG.fp311_42, hG.fo336, hG.fa336, hG.fl336, ↓asP_h hG.fp311_43, hG.fo337, hG.fa337, hG.fl337, h2]
      rw [← hQ]
      show _ ∧ _ ∧ _
      rw [if_pos hok, if_pos hok]
      exact ⟨rfl, rfl, hJ⟩
    · intro k hk ih J hJ h2 z
      have hb : bcN g (k + 1) ≤ bcN g 20 := by
        have : ∀ n m, n ≤ m → bcN g n ≤ bcN g m := by
          intro n m h
          induction h with
          | refl => exact Nat.le_refl _
          | step _ ih => exact Nat.le_trans ih (Nat.le_add_right _ _)
        exact this _ _ (by omega)
      have hbs : bcN g (k + 1) = bcN g k + (if g k = 0 then 0 else 1) := rfl
      refine Ex.run TX11_feed [62] 60 ?_
      simp only [↓tX11_feed, ↓opPush, ↓opILoad, ↓opLLoad, ↓opALoad, ↓opIStore, ↓opAStore, ↓opLStore, ↓opIInc, ↓opI1, ↓opII, ↓opID, ↓opLL, ↓opLD, ↓opLI, ↓opI2L, ↓opL2I, ↓opLcmp, ↓opDup, ↓opDupX1, ↓opDup2, ↓opPop, ↓opIf1, ↓opIf2, ↓opGoto, ↓opIRet, ↓opZRet, ↓opLRet, ↓opVRet, ↓opGetI, ↓opGetL, ↓opGetR, ↓opPutI, ↓opPutZ, ↓opPutL, ↓opPutR, ↓opIALoad, ↓opBALoad, ↓opZALoad, ↓opLALoad, ↓opAALoad, ↓opIAStore, ↓opZAStore, ↓opLAStore, ↓opALen, ↓opGetS, ↓opGetC, ↓opStrV, ↓opStrC, ↓opCallV, ↓opCallS, ↓opSw, ↓opCopy, ↓opCallT, ↓opBRet, ↓opObjI, ↓opNew, ↓opNewA, ↓opANew, ↓opAAStore, ↓opMNew, ↓opCallI, ↓wp_s, ↓wp_0, ↓popI_c, ↓popL_c, ↓popR_c, ↓pop1_i, ↓pop1_r, ↓ldI_0, ↓ldI_s, ↓ldL_0, ↓ldL_s, ↓ldR_0, ↓ldR_s, ↓stL_0, ↓stL_s, ↓tk_0, ↓tk_s, ↓Kc_s, ↓Kc_n, isS_0, isS_s, asP_c, gi_0, gi_s, noL_0, noL_s, isW_n, isW_i, isW_r, rcv_c, rcvT_c, swK_0, swK_s, catS, or_false, false_or, not_false_eq_true, not_true_eq_false, true_implies, false_implies, and_true, true_and, ↓reduceIte, Nat.reduceAdd, Nat.reduceLT, Nat.reduceLeDiff, Nat.reduceEqDiff, Nat.reduceSub, forall_const, eq_self, and_self, or_true, true_or, lpF (N := 20) (n := 20) (k := k) rfl hk (by decide)]
      refine ⟨_, _, _, _, rfl, by1 J k hk, ?_⟩
      by_cases c0 : g k = 0
      · rw [if_pos c0] at hbs
        simp only [↓tX11_feed, ↓opPush, ↓opILoad, ↓opLLoad, ↓opALoad, ↓opIStore, ↓opAStore, ↓opLStore, ↓opIInc, ↓opI1, ↓opII, ↓opID, ↓opLL, ↓opLD, ↓opLI, ↓opI2L, ↓opL2I, ↓opLcmp, ↓opDup, ↓opDupX1, ↓opDup2, ↓opPop, ↓opIf1, ↓opIf2, ↓opGoto, ↓opIRet, ↓opZRet, ↓opLRet, ↓opVRet, ↓opGetI, ↓opGetL, ↓opGetR, ↓opPutI, ↓opPutZ, ↓opPutL, ↓opPutR, ↓opIALoad, ↓opBALoad, ↓opZALoad, ↓opLALoad, ↓opAALoad, ↓opIAStore, ↓opZAStore, ↓opLAStore, ↓opALen, ↓opGetS, ↓opGetC, ↓opStrV, ↓opStrC, ↓opCallV, ↓opCallS, ↓opSw, ↓opCopy, ↓opCallT, ↓opBRet, ↓opObjI, ↓opNew, ↓opNewA, ↓opANew, ↓opAAStore, ↓opMNew, ↓opCallI, ↓wp_s, ↓wp_0, ↓popI_c, ↓popL_c, ↓popR_c, ↓pop1_i, ↓pop1_r, ↓ldI_0, ↓ldI_s, ↓ldL_0, ↓ldL_s, ↓ldR_0, ↓ldR_s, ↓stL_0, ↓stL_s, ↓tk_0, ↓tk_s, ↓Kc_s, ↓Kc_n, isS_0, isS_s, asP_c, gi_0, gi_s, noL_0, noL_s, isW_n, isW_i, isW_r, rcv_c, rcvT_c, swK_0, swK_s, catS, or_false, false_or, not_false_eq_true, not_true_eq_false, true_implies, false_implies, and_true, true_and, ↓reduceIte, Nat.reduceAdd, Nat.reduceLT, Nat.reduceLeDiff, Nat.reduceEqDiff, Nat.reduceSub, forall_const, eq_self, and_self, or_true, true_or, c0, nI_1]
        exact ih J (by rw [foldN_s, ← hJ]; unfold tp1; rw [if_pos c0]) (by rw [hbs]; exact h2) _
      · rw [if_neg c0] at hbs
        have hlt : S + bcN g k < 240 := by omega
        have h2' : up2 J 312 (S + bcN g k) (g k) 311 2 = nI (S + bcN g k) := by rw [up2_ne (by decide)]; exact h2
        simp only [↓tX11_feed, ↓opPush, ↓opILoad, ↓opLLoad, ↓opALoad, ↓opIStore, ↓opAStore, ↓opLStore, ↓opIInc, ↓opI1, ↓opII, ↓opID, ↓opLL, ↓opLD, ↓opLI, ↓opI2L, ↓opL2I, ↓opLcmp, ↓opDup, ↓opDupX1, ↓opDup2, ↓opPop, ↓opIf1, ↓opIf2, ↓opGoto, ↓opIRet, ↓opZRet, ↓opLRet, ↓opVRet, ↓opGetI, ↓opGetL, ↓opGetR, ↓opPutI, ↓opPutZ, ↓opPutL, ↓opPutR, ↓opIALoad, ↓opBALoad, ↓opZALoad, ↓opLALoad, ↓opAALoad, ↓opIAStore, ↓opZAStore, ↓opLAStore, ↓opALen, ↓opGetS, ↓opGetC, ↓opStrV, ↓opStrC, ↓opCallV, ↓opCallS, ↓opSw, ↓opCopy, ↓opCallT, ↓opBRet, ↓opObjI, ↓opNew, ↓opNewA, ↓opANew, ↓opAAStore, ↓opMNew, ↓opCallI, ↓wp_s, ↓wp_0, ↓popI_c, ↓popL_c, ↓popR_c, ↓pop1_i, ↓pop1_r, ↓ldI_0, ↓ldI_s, ↓ldL_0, ↓ldL_s, ↓ldR_0, ↓ldR_s, ↓stL_0, ↓stL_s, ↓tk_0, ↓tk_s, ↓Kc_s, ↓Kc_n, isS_0, isS_s, asP_c, gi_0, gi_s, noL_0, noL_s, isW_n, isW_i, isW_r, rcv_c, rcvT_c, swK_0, swK_s, catS, or_false, false_or, not_false_eq_true, not_true_eq_false, true_implies, false_implies, and_true, true_and, ↓reduceIte, Nat.reduceAdd, Nat.reduceLT, Nat.reduceLeDiff, Nat.reduceEqDiff, Nat.reduceSub, forall_const, eq_self, and_self, or_true, true_or, c0, hG.fo311, ↓asP_h hG.fp311_1, hG.fo312, hG.fa312, hG.fl312, h2, vp_in_nI hlt (by decide), nI_clamp (show S + bcN g k < 2 ^ 31 by omega), h2', nI_1]
        refine ih _ ?_ (by rw [up2_sa, hbs]; rfl) _
        rw [foldN_s, ← hJ]
        unfold tp1
        rw [if_neg c0, h2, nI_clamp (show S + bcN g k < 2 ^ 31 by omega), nI_1]
  -- counting
  have cnt : ∀ k, k ≤ 20 → Ex E (d + 1) mX11_feed Q 6 [some (.ref 311), some (.int a), some (.int b), some (.int c), some (.int e), some (.int f), some (.int (nI (bcN g k))), some (.int (nI k)), none] [] (0, 0) G I := by
    refine dn ?_ ?_
    · have hle := bcN_le g 20
      refine Ex.run TX11_feed [6, 62] 60 ?_
      simp only [↓tX11_feed, ↓opPush, ↓opILoad, ↓opLLoad, ↓opALoad, ↓opIStore, ↓opAStore, ↓opLStore, ↓opIInc, ↓opI1, ↓opII, ↓opID, ↓opLL, ↓opLD, ↓opLI, ↓opI2L, ↓opL2I, ↓opLcmp, ↓opDup, ↓opDupX1, ↓opDup2, ↓opPop, ↓opIf1, ↓opIf2, ↓opGoto, ↓opIRet, ↓opZRet, ↓opLRet, ↓opVRet, ↓opGetI, ↓opGetL, ↓opGetR, ↓opPutI, ↓opPutZ, ↓opPutL, ↓opPutR, ↓opIALoad, ↓opBALoad, ↓opZALoad, ↓opLALoad, ↓opAALoad, ↓opIAStore, ↓opZAStore, ↓opLAStore, ↓opALen, ↓opGetS, ↓opGetC, ↓opStrV, ↓opStrC, ↓opCallV, ↓opCallS, ↓opSw, ↓opCopy, ↓opCallT, ↓opBRet, ↓opObjI, ↓opNew, ↓opNewA, ↓opANew, ↓opAAStore, ↓opMNew, ↓opCallI, ↓wp_s, ↓wp_0, ↓popI_c, ↓popL_c, ↓popR_c, ↓pop1_i, ↓pop1_r, ↓ldI_0, ↓ldI_s, ↓ldL_0, ↓ldL_s, ↓ldR_0, ↓ldR_s, ↓stL_0, ↓stL_s, ↓tk_0, ↓tk_s, ↓Kc_s, ↓Kc_n, isS_0, isS_s, asP_c, gi_0, gi_s, noL_0, noL_s, isW_n, isW_i, isW_r, rcv_c, rcvT_c, swK_0, swK_s, catS, or_false, false_or, not_false_eq_true, not_true_eq_false, true_implies, false_implies, and_true, true_and, ↓reduceIte, Nat.reduceAdd, Nat.reduceLT, Nat.reduceLeDiff, Nat.reduceEqDiff, Nat.reduceSub, forall_const, eq_self, and_self, or_true, true_or, lpT (N := 20) (n := 20) rfl, hG.fo311, ↓asP_h hG.fp311_1, hG.fo312, hG.fa312, hG.fl312, ↓asP_h hG.fp311_6, hG.fo313, hG.fa313, hG.fl313, ↓asP_h hG.fp311_7, hG.fo314, hG.fa314, hG.fl314, ↓asP_h hG.fp311_8, hG.fo315, hG.fa315, hG.fl315, ↓asP_h hG.fp311_9, hG.fo316, hG.fa316, hG.fl316, ↓asP_h hG.fp311_10, hG.fo317, hG.fa317, hG.fl317, ↓asP_h hG.fp311_11, hG.fo318, hG.fa318, hG.fl318, ↓asP_h hG.fp311_12, hG.fo319, hG.fa319, hG.fl319, ↓asP_h hG.fp311_15, hG.fo320, hG.fa320, hG.fl320, ↓asP_h hG.fp311_16, hG.fo321, hG.fa321, hG.fl321, ↓asP_h hG.fp311_17, hG.fo322, hG.fa322, hG.fl322, ↓asP_h hG.fp311_18, hG.fo323, hG.fa323, hG.fl323, ↓asP_h hG.fp311_19, hG.fo324, hG.fa324, hG.fl324, ↓asP_h hG.fp311_22, hG.fo325, hG.fa325, hG.fl325, ↓asP_h hG.fp311_23, hG.fo326, hG.fa326, hG.fl326, ↓asP_h hG.fp311_24, hG.fo327, hG.fa327, hG.fl327, ↓asP_h hG.fp311_27, hG.fo328, hG.fa328, hG.fl328, ↓asP_h hG.fp311_28, hG.fo329, hG.fa329, hG.fl329, ↓asP_h hG.fp311_31, hG.fo330, hG.fa330, hG.fl330, ↓asP_h hG.fp311_34, hG.fo331, hG.fa331, hG.fl331, ↓asP_h hG.fp311_37, hG.fo332, hG.fa332, hG.fl332, ↓asP_h hG.fp311_38, hG.fo333, hG.fa333, hG.fl333, ↓asP_h hG.fp311_39, hG.fo334, hG.fl334, ↓asP_h hG.fp311_41, hG.fo335, hG.fa335, hG.fl335, ↓asP_h hG.fp311_42, hG.fo336, hG.fa336, hG.fl336, ↓asP_h hG.fp311_43, hG.fo337, hG.fa337, hG.fl337, hI, nI_add]
      have l240 : nI (S + bcN g 20) ≤ 240 ↔ S + bcN g 20 ≤ 240 := nI_leI (b := 240) (by omega) (by decide)
      refine ⟨fun z => ?_, fun z => ?_⟩
      · exact app (l240.mp z) 0 (by omega) I rfl hI _
      · rw [← hQ]
        show _ ∧ _ ∧ _
        rw [if_neg (fun y => z (l240.mpr y)), if_neg (fun y => z (l240.mpr y))]
        exact ⟨rfl, rfl, rfl⟩
    · intro k hk ih
      have hbs : bcN g (k + 1) = bcN g k + (if g k = 0 then 0 else 1) := rfl
      refine Ex.run TX11_feed [6, 62] 60 ?_
      simp only [↓tX11_feed, ↓opPush, ↓opILoad, ↓opLLoad, ↓opALoad, ↓opIStore, ↓opAStore, ↓opLStore, ↓opIInc, ↓opI1, ↓opII, ↓opID, ↓opLL, ↓opLD, ↓opLI, ↓opI2L, ↓opL2I, ↓opLcmp, ↓opDup, ↓opDupX1, ↓opDup2, ↓opPop, ↓opIf1, ↓opIf2, ↓opGoto, ↓opIRet, ↓opZRet, ↓opLRet, ↓opVRet, ↓opGetI, ↓opGetL, ↓opGetR, ↓opPutI, ↓opPutZ, ↓opPutL, ↓opPutR, ↓opIALoad, ↓opBALoad, ↓opZALoad, ↓opLALoad, ↓opAALoad, ↓opIAStore, ↓opZAStore, ↓opLAStore, ↓opALen, ↓opGetS, ↓opGetC, ↓opStrV, ↓opStrC, ↓opCallV, ↓opCallS, ↓opSw, ↓opCopy, ↓opCallT, ↓opBRet, ↓opObjI, ↓opNew, ↓opNewA, ↓opANew, ↓opAAStore, ↓opMNew, ↓opCallI, ↓wp_s, ↓wp_0, ↓popI_c, ↓popL_c, ↓popR_c, ↓pop1_i, ↓pop1_r, ↓ldI_0, ↓ldI_s, ↓ldL_0, ↓ldL_s, ↓ldR_0, ↓ldR_s, ↓stL_0, ↓stL_s, ↓tk_0, ↓tk_s, ↓Kc_s, ↓Kc_n, isS_0, isS_s, asP_c, gi_0, gi_s, noL_0, noL_s, isW_n, isW_i, isW_r, rcv_c, rcvT_c, swK_0, swK_s, catS, or_false, false_or, not_false_eq_true, not_true_eq_false, true_implies, false_implies, and_true, true_and, ↓reduceIte, Nat.reduceAdd, Nat.reduceLT, Nat.reduceLeDiff, Nat.reduceEqDiff, Nat.reduceSub, forall_const, eq_self, and_self, or_true, true_or, lpF (N := 20) (n := 20) (k := k) rfl hk (by decide)]
      refine ⟨_, _, _, _, rfl, by1 I k hk, ?_⟩
      simp only [↓tX11_feed, ↓opPush, ↓opILoad, ↓opLLoad, ↓opALoad, ↓opIStore, ↓opAStore, ↓opLStore, ↓opIInc, ↓opI1, ↓opII, ↓opID, ↓opLL, ↓opLD, ↓opLI, ↓opI2L, ↓opL2I, ↓opLcmp, ↓opDup, ↓opDupX1, ↓opDup2, ↓opPop, ↓opIf1, ↓opIf2, ↓opGoto, ↓opIRet, ↓opZRet, ↓opLRet, ↓opVRet, ↓opGetI, ↓opGetL, ↓opGetR, ↓opPutI, ↓opPutZ, ↓opPutL, ↓opPutR, ↓opIALoad, ↓opBALoad, ↓opZALoad, ↓opLALoad, ↓opAALoad, ↓opIAStore, ↓opZAStore, ↓opLAStore, ↓opALen, ↓opGetS, ↓opGetC, ↓opStrV, ↓opStrC, ↓opCallV, ↓opCallS, ↓opSw, ↓opCopy, ↓opCallT, ↓opBRet, ↓opObjI, ↓opNew, ↓opNewA, ↓opANew, ↓opAAStore, ↓opMNew, ↓opCallI, ↓wp_s, ↓wp_0, ↓popI_c, ↓popL_c, ↓popR_c, ↓pop1_i, ↓pop1_r, ↓ldI_0, ↓ldI_s, ↓ldL_0, ↓ldL_s, ↓ldR_0, ↓ldR_s, ↓stL_0, ↓stL_s, ↓tk_0, ↓tk_s, ↓Kc_s, ↓Kc_n, isS_0, isS_s, asP_c, gi_0, gi_s, noL_0, noL_s, isW_n, isW_i, isW_r, rcv_c, rcvT_c, swK_0, swK_s, catS, or_false, false_or, not_false_eq_true, not_true_eq_false, true_implies, false_implies, and_true, true_and, ↓reduceIte, Nat.reduceAdd, Nat.reduceLT, Nat.reduceLeDiff, Nat.reduceEqDiff, Nat.reduceSub, forall_const, eq_self, and_self, or_true, true_or, nI_1]
      refine ⟨fun z => ih.lvE (by rw [hbs, if_pos z, add0, Nat.add_zero]), fun z => ih.lvE (by rw [hbs, if_neg z])⟩
  unfold Run
  rw [hQ]
  refine Ct.run okX11_feed TX11_feed [6] 60 rfl rfl ?_
  simp only [↓tX11_feed, ↓opPush, ↓opILoad, ↓opLLoad, ↓opALoad, ↓opIStore, ↓opAStore, ↓opLStore, ↓opIInc, ↓opI1, ↓opII, ↓opID, ↓opLL, ↓opLD, ↓opLI, ↓opI2L, ↓opL2I, ↓opLcmp, ↓opDup, ↓opDupX1, ↓opDup2, ↓opPop, ↓opIf1, ↓opIf2, ↓opGoto, ↓opIRet, ↓opZRet, ↓opLRet, ↓opVRet, ↓opGetI, ↓opGetL, ↓opGetR, ↓opPutI, ↓opPutZ, ↓opPutL, ↓opPutR, ↓opIALoad, ↓opBALoad, ↓opZALoad, ↓opLALoad, ↓opAALoad, ↓opIAStore, ↓opZAStore, ↓opLAStore, ↓opALen, ↓opGetS, ↓opGetC, ↓opStrV, ↓opStrC, ↓opCallV, ↓opCallS, ↓opSw, ↓opCopy, ↓opCallT, ↓opBRet, ↓opObjI, ↓opNew, ↓opNewA, ↓opANew, ↓opAAStore, ↓opMNew, ↓opCallI, ↓wp_s, ↓wp_0, ↓popI_c, ↓popL_c, ↓popR_c, ↓pop1_i, ↓pop1_r, ↓ldI_0, ↓ldI_s, ↓ldL_0, ↓ldL_s, ↓ldR_0, ↓ldR_s, ↓stL_0, ↓stL_s, ↓tk_0, ↓tk_s, ↓Kc_s, ↓Kc_n, isS_0, isS_s, asP_c, gi_0, gi_s, noL_0, noL_s, isW_n, isW_i, isW_r, rcv_c, rcvT_c, swK_0, swK_s, catS, or_false, false_or, not_false_eq_true, not_true_eq_false, true_implies, false_implies, and_true, true_and, ↓reduceIte, Nat.reduceAdd, Nat.reduceLT, Nat.reduceLeDiff, Nat.reduceEqDiff, Nat.reduceSub, forall_const, eq_self, and_self, or_true, true_or, lve_i, lve_r, lve_l, lve_0, List.replicate_succ, List.replicate_zero, mX, mX11_feed]
  exact cnt 0 (by omega)
end
