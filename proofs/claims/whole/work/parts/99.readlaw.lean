/-! ===== the reference: a clause to its end, a whole law's text ===== -/
theorem up2_o {α : Type} {f : Nat → Nat → α} {a k b j : Nat} {v : α} (h : ¬ (b = a ∧ j = k)) : up2 f a k v b j = f b j := by
  by_cases e : b = a
  · subst e
    exact up2_nk (fun z => h ⟨rfl, z⟩)
  · rw [up2_ne e]
theorem bnd_0 (p : Nat) (f : Nat → PR) : bnd (.ok (p, [])) f = f p := by
  cases h : f p with
  | error e => exact bnd_oe h
  | ok y => rw [bnd_oo h]; rfl
/-- what a clause leaves -/
def CO (row : Nat → Int32) (L t : Nat) (cs : CLs) (a : Nat) (r : PR) (J' : IM) (a' : Nat) (F' : Int32) : Prop := match r with
  | .error p => F' = nI p ∧ p ≤ 240
  | .ok x => F' = -1 ∧ a' = x.1 ∧ a' ≤ L ∧ ∃ c : List Int32 × List Int32, x.2 = clT c ∧ clOK c ∧ LSt row L t J' 0 ((cs ++ [c]).flatMap clF) ∧ CSt J' t (cs ++ [c]) ∧ ((cs ++ [c]).flatMap clF).length ≤ a' ∧ 2 * (cs.length + 1) ≤ a' ∧ x.2.length + a ≤ a'
theorem flat1 (cs : CLs) (c : List Int32 × List Int32) : (cs ++ [c]).flatMap clF = cs.flatMap clF ++ (c.1 ++ c.2) := by
  rw [List.flatMap_append]
  simp [clF]
section
variable {E : EV} {d : Nat} {G : GD} {J : IM} {L t : Nat} {row lt : Nat → Int32}
set_option maxRecDepth 100000 in
set_option maxHeartbeats 4000000 in
theorem r_clause (hG : GTs G) (hL : L ≤ 240) (hlt : LTok lt) (hb : ∀ k, k < L → ∃ x, x < 256 ∧ row k = nI x) {cs : CLs} (hst : LSt row L t J 0 (cs.flatMap clF)) (hcs : CSt J t cs) {a : Nat} (hla : (cs.flatMap clF).length ≤ a) (hca : 2 * cs.length ≤ a) (ha : a ≤ L) : ∃ J' a' F', cfr t J J' ∧ CO row L t cs a (clS row lt L a) J' a' F' ∧ Run E (d + 49) mX11_clause [.ref 311] (0, 0) G (mI J a (-1)) none G (mI J' a' F') := by
  have ht : t < 5 := by have := hst.2.2.1; omega
  have hc0 : cs.length < 140 := by omega
  have ecl : clS row lt L a = bnd (bnd (bnd (wantS row L 121 a) (wantS row L 58)) (cbS row lt L)) (emS 20059) := rfl
  rcases l_clA (E := E) (d := d) hG hL hst hcs.1 hc0 (by omega) ha with ⟨p, b, er, hp, run⟩ | ⟨p2, er, h1, h2, pre⟩
  · refine ⟨J, b, nI p, cfr.rf, ?_, run⟩
    rw [ecl, er]
    exact ⟨rfl, hp⟩
  · generalize hl : cs.flatMap clF = l at *
    have hk : 140 * t ≤ 140 * t + cs.length ∧ 140 * t + cs.length < 140 * t + 140 := by omega
    generalize hkk : 140 * t + cs.length = k at *
    have st1 : LSt row L t (up2 J 317 k (nI l.length)) 0 l := hst.up (by decide)
    obtain ⟨J2, a2, F2, dp2, l2, X, run2⟩ := l_clB (E := E) (d := d) (lt := lt) hG hL hlt hb st1 (a := p2) (by omega) h2 (nI k)
    have hl2 := X.len (by omega) hL
    have b1 : l2.length + p2 ≤ a2 + l.length := X.2.2.1.1
    have f2 := X.2.1
    have g317 : J2 317 k = nI l.length := by rw [f2 317 k (by omega), up2_sa]
    have g316 : J2 316 t = nI cs.length := by rw [f2 316 t (by omega), up2_ne (by decide)]; exact hcs.1
    -- the old clauses stand
    have old : ∀ b j, 316 ≤ b → b ≤ 319 → ¬ (b = 317 ∧ j = k) → J2 b j = J b j := fun b j x1 x2 x3 => by rw [f2 b j (by omega), up2_o x3]
    have fr2 : cfr t J J2 := (cfr_up (Or.inl ⟨Or.inl rfl, by omega⟩)).trans f2.cfr
    have e14 : ∀ (K : IM) dp l, LSt row L t K dp l → ∀ b F, mI K b F 311 14 = nI t := fun K dp l h b F => by rw [mI_k (by decide) (by decide)]; exact h.2.2.2.1
    have e315 : ∀ (K : IM) dp l, LSt row L t K dp l → ∀ b F, mI K b F 315 t = nI l.length := fun K dp l h b F => by rw [mI_ne (by decide)]; exact h.2.2.2.2.2.1
    -- at the end
    have fin : ∀ (K : IM) (b : Nat) (F : Int32) (dp : Nat) (l5 : List Int32) (v : Option Value), LSt row L t K dp l5 → K 316 t = nI cs.length → Ex E (d + 49) mX11_clause (fun x y z => x = none ∧ y = G ∧ z = mI (up2 (up2 K 319 k (nI l5.length)) 316 t (nI (cs.length + 1))) b F) 251 [some (.ref 311), some (.int (nI k)), v] [] (0, 0) G (mI K b F) := fun K b F dp l5 v hK h6 => by
      have q1 : up2 (mI K b F) 319 k (nI l5.length) 311 14 = nI t := by rw [up2_ne (by decide)]; exact e14 K dp l5 hK b F
      have q2 : up2 (mI K b F) 319 k (nI l5.length) 316 t = nI cs.length := by rw [up2_ne (by decide), mI_ne (by decide)]; exact h6
      refine Ex.run TX11_clause [] 90 ?_
      simp only [↓tX11_clause, ↓opPush, ↓opILoad, ↓opLLoad, ↓opALoad, ↓opIStore, ↓opAStore, ↓opLStore, ↓opIInc, ↓opI1, ↓opII, ↓opID, ↓opLL, ↓opLD, ↓opLI, ↓opI2L, ↓opL2I, ↓opLcmp, ↓opDup, ↓opDupX1, ↓opDup2, ↓opPop, ↓opIf1, ↓opIf2, ↓opGoto, ↓opIRet, ↓opZRet, ↓opLRet, ↓opVRet, ↓opGetI, ↓opGetL, ↓opGetR, ↓opPutI, ↓opPutZ, ↓opPutL, ↓opPutR, ↓opIALoad, ↓opBALoad, ↓opZALoad, ↓opLALoad, ↓opAALoad, ↓opIAStore, ↓opZAStore, ↓opLAStore, ↓opALen, ↓opGetS, ↓opGetC, ↓opStrV, ↓opStrC, ↓opCallV, ↓opCallS, ↓opSw, ↓opCopy, ↓opCallT, ↓opBRet, ↓opObjI, ↓opNew, ↓opNewA, ↓opANew, ↓opAAStore, ↓opMNew, ↓opCallI, ↓wp_s, ↓wp_0, ↓popI_c, ↓popL_c, ↓popR_c, ↓pop1_i, ↓pop1_r, ↓ldI_0, ↓ldI_s, ↓ldL_0, ↓ldL_s, ↓ldR_0, ↓ldR_s, ↓stL_0, ↓stL_s, ↓tk_0, ↓tk_s, ↓Kc_s, ↓Kc_n, isS_0, isS_s, asP_c, gi_0, gi_s, noL_0, noL_s, isW_n, isW_i, isW_r, rcv_c, rcvT_c, swK_0, swK_s, catS, or_false, false_or, not_false_eq_true, not_true_eq_false, true_implies, false_implies, and_true, true_and, ↓reduceIte, Nat.reduceAdd, Nat.reduceLT, Nat.reduceLeDiff, Nat.reduceEqDiff, Nat.reduceSub, forall_const, eq_self, and_self, or_true, true_or, hG.fo311, ↓asP_h hG.fp311_8, hG.fo315, hG.fa315, hG.fl315, ↓asP_h hG.fp311_9, hG.fo316, hG.fa316, hG.fl316, ↓asP_h hG.fp311_12, hG.fo319, hG.fa319, hG.fl319, e14 K dp l5 hK, e315 K dp l5 hK, vp_in_nI ht (by decide), nI_clamp (show t < 2 ^ 31 by omega), vp_in_nI (show k < 700 by omega) (by decide), nI_clamp (show k < 2 ^ 31 by omega), q1, q2, nI_1]
      rw [mI_up (by decide), mI_up (by decide)]
    -- sumFrom set
    have s3 := X.1.up (b := 318) (k := k) (v := nI l.length) (by decide)
    have to196 : ∀ (Q : QT) (v : Int32), Ex E (d + 49) mX11_clause Q 196 [some (.ref 311), some (.int (nI k)), some (.int v)] [] (0, 0) G (mI (up2 J2 318 k (nI l.length)) a2 F2) → Ex E (d + 49) mX11_clause Q 184 [some (.ref 311), some (.int (nI k)), some (.int v)] [] (0, 0) G (mI J2 a2 F2) := fun Q v hQ => by
      have q1 : mI J2 a2 F2 317 k = nI l.length := by rw [mI_ne (by decide)]; exact g317
      refine Ex.run TX11_clause [196] 90 ?_
      simp only [↓tX11_clause, ↓opPush, ↓opILoad, ↓opLLoad, ↓opALoad, ↓opIStore, ↓opAStore, ↓opLStore, ↓opIInc, ↓opI1, ↓opII, ↓opID, ↓opLL, ↓opLD, ↓opLI, ↓opI2L, ↓opL2I, ↓opLcmp, ↓opDup, ↓opDupX1, ↓opDup2, ↓opPop, ↓opIf1, ↓opIf2, ↓opGoto, ↓opIRet, ↓opZRet, ↓opLRet, ↓opVRet, ↓opGetI, ↓opGetL, ↓opGetR, ↓opPutI, ↓opPutZ, ↓opPutL, ↓opPutR, ↓opIALoad, ↓opBALoad, ↓opZALoad, ↓opLALoad, ↓opAALoad, ↓opIAStore, ↓opZAStore, ↓opLAStore, ↓opALen, ↓opGetS, ↓opGetC, ↓opStrV, ↓opStrC, ↓opCallV, ↓opCallS, ↓opSw, ↓opCopy, ↓opCallT, ↓opBRet, ↓opObjI, ↓opNew, ↓opNewA, ↓opANew, ↓opAAStore, ↓opMNew, ↓opCallI, ↓wp_s, ↓wp_0, ↓popI_c, ↓popL_c, ↓popR_c, ↓pop1_i, ↓pop1_r, ↓ldI_0, ↓ldI_s, ↓ldL_0, ↓ldL_s, ↓ldR_0, ↓ldR_s, ↓stL_0, ↓stL_s, ↓tk_0, ↓tk_s, ↓Kc_s, ↓Kc_n, isS_0, isS_s, asP_c, gi_0, gi_s, noL_0, noL_s, isW_n, isW_i, isW_r, rcv_c, rcvT_c, swK_0, swK_s, catS, or_false, false_or, not_false_eq_true, not_true_eq_false, true_implies, false_implies, and_true, true_and, ↓reduceIte, Nat.reduceAdd, Nat.reduceLT, Nat.reduceLeDiff, Nat.reduceEqDiff, Nat.reduceSub, forall_const, eq_self, and_self, or_true, true_or, hG.fo311, ↓asP_h hG.fp311_10, hG.fo317, hG.fa317, hG.fl317, ↓asP_h hG.fp311_11, hG.fo318, hG.fa318, hG.fl318, vp_in_nI (show k < 700 by omega) (by decide), nI_clamp (show k < 2 ^ 31 by omega), q1]
      rw [mI_up (by decide)]
      exact hQ
    have h6 : up2 J2 318 k (nI l.length) 316 t = nI cs.length := by rw [up2_ne (by decide)]; exact g316
    have fr3 : cfr t J (up2 J2 318 k (nI l.length)) := fr2.trans (cfr_up (Or.inl ⟨Or.inr (Or.inl rfl), by omega⟩))
    -- straight to the end
    have straight : (¬ F2 = -1 ∨ (tsS row lt L p2).1 = false) → Run E (d + 49) mX11_clause [.ref 311] (0, 0) G (mI J a (-1)) none G (mI (up2 (up2 (up2 J2 318 k (nI l.length)) 319 k (nI l2.length)) 316 t (nI (cs.length + 1))) a2 F2) := fun hh => by
      refine pre _ (run2 _ (to196 _ _ ?_))
      have f := fin _ a2 F2 dp2 l2 (some (.int (skI (tsS row lt L p2).1))) s3 h6
      refine Ex.run TX11_clause [251] 90 ?_
      by_cases cT : (tsS row lt L p2).1 = false
      · rw [cT] at f ⊢
        simp only [↓tX11_clause, ↓opPush, ↓opILoad, ↓opLLoad, ↓opALoad, ↓opIStore, ↓opAStore, ↓opLStore, ↓opIInc, ↓opI1, ↓opII, ↓opID, ↓opLL, ↓opLD, ↓opLI, ↓opI2L, ↓opL2I, ↓opLcmp, ↓opDup, ↓opDupX1, ↓opDup2, ↓opPop, ↓opIf1, ↓opIf2, ↓opGoto, ↓opIRet, ↓opZRet, ↓opLRet, ↓opVRet, ↓opGetI, ↓opGetL, ↓opGetR, ↓opPutI, ↓opPutZ, ↓opPutL, ↓opPutR, ↓opIALoad, ↓opBALoad, ↓opZALoad, ↓opLALoad, ↓opAALoad, ↓opIAStore, ↓opZAStore, ↓opLAStore, ↓opALen, ↓opGetS, ↓opGetC, ↓opStrV, ↓opStrC, ↓opCallV, ↓opCallS, ↓opSw, ↓opCopy, ↓opCallT, ↓opBRet, ↓opObjI, ↓opNew, ↓opNewA, ↓opANew, ↓opAAStore, ↓opMNew, ↓opCallI, ↓wp_s, ↓wp_0, ↓popI_c, ↓popL_c, ↓popR_c, ↓pop1_i, ↓pop1_r, ↓ldI_0, ↓ldI_s, ↓ldL_0, ↓ldL_s, ↓ldR_0, ↓ldR_s, ↓stL_0, ↓stL_s, ↓tk_0, ↓tk_s, ↓Kc_s, ↓Kc_n, isS_0, isS_s, asP_c, gi_0, gi_s, noL_0, noL_s, isW_n, isW_i, isW_r, rcv_c, rcvT_c, swK_0, swK_s, catS, or_false, false_or, not_false_eq_true, not_true_eq_false, true_implies, false_implies, and_true, true_and, ↓reduceIte, Nat.reduceAdd, Nat.reduceLT, Nat.reduceLeDiff, Nat.reduceEqDiff, Nat.reduceSub, forall_const, eq_self, and_self, or_true, true_or, show skI false = 0 from rfl]
        exact f
      · have eT : (tsS row lt L p2).1 = true := by simpa using cT
        rw [eT] at f ⊢
        simp only [↓tX11_clause, ↓opPush, ↓opILoad, ↓opLLoad, ↓opALoad, ↓opIStore, ↓opAStore, ↓opLStore, ↓opIInc, ↓opI1, ↓opII, ↓opID, ↓opLL, ↓opLD, ↓opLI, ↓opI2L, ↓opL2I, ↓opLcmp, ↓opDup, ↓opDupX1, ↓opDup2, ↓opPop, ↓opIf1, ↓opIf2, ↓opGoto, ↓opIRet, ↓opZRet, ↓opLRet, ↓opVRet, ↓opGetI, ↓opGetL, ↓opGetR, ↓opPutI, ↓opPutZ, ↓opPutL, ↓opPutR, ↓opIALoad, ↓opBALoad, ↓opZALoad, ↓opLALoad, ↓opAALoad, ↓opIAStore, ↓opZAStore, ↓opLAStore, ↓opALen, ↓opGetS, ↓opGetC, ↓opStrV, ↓opStrC, ↓opCallV, ↓opCallS, ↓opSw, ↓opCopy, ↓opCallT, ↓opBRet, ↓opObjI, ↓opNew, ↓opNewA, ↓opANew, ↓opAAStore, ↓opMNew, ↓opCallI, ↓wp_s, ↓wp_0, ↓popI_c, ↓popL_c, ↓popR_c, ↓pop1_i, ↓pop1_r, ↓ldI_0, ↓ldI_s, ↓ldL_0, ↓ldL_s, ↓ldR_0, ↓ldR_s, ↓stL_0, ↓stL_s, ↓tk_0, ↓tk_s, ↓Kc_s, ↓Kc_n, isS_0, isS_s, asP_c, gi_0, gi_s, noL_0, noL_s, isW_n, isW_i, isW_r, rcv_c, rcvT_c, swK_0, swK_s, catS, or_false, false_or, not_false_eq_true, not_true_eq_false, true_implies, false_implies, and_true, true_and, ↓reduceIte, Nat.reduceAdd, Nat.reduceLT, Nat.reduceLeDiff, Nat.reduceEqDiff, Nat.reduceSub, forall_const, eq_self, and_self, or_true, true_or, show skI true = 1 from rfl, ne10, hG.fo311, ↓asP_h hG.fp311_1, hG.fo312, hG.fa312, hG.fl312, ↓asP_h hG.fp311_6, hG.fo313, hG.fa313, hG.fl313, ↓asP_h hG.fp311_7, hG.fo314, hG.fa314, hG.fl314, ↓asP_h hG.fp311_8, hG.fo315, hG.fa315, hG.fl315, ↓asP_h hG.fp311_9, hG.fo316, hG.fa316, hG.fl316, ↓asP_h hG.fp311_10, hG.fo317, hG.fa317, hG.fl317, ↓asP_h hG.fp311_11, hG.fo318, hG.fa318, hG.fl318, ↓asP_h hG.fp311_12, hG.fo319, hG.fa319, hG.fl319, ↓asP_h hG.fp311_15, hG.fo320, hG.fa320, hG.fl320, ↓asP_h hG.fp311_16, hG.fo321, hG.fa321, hG.fl321, ↓asP_h hG.fp311_17, hG.fo322, hG.fa322, hG.fl322, ↓asP_h hG.fp311_18, hG.fo323, hG.fa323, hG.fl323, ↓asP_h hG.fp311_19, hG.fo324, hG.fa324, hG.fl324, ↓asP_h hG.fp311_22, hG.fo325, hG.fa325, hG.fl325, ↓asP_h hG.fp311_23, hG.fo326, hG.fa326, hG.fl326, ↓asP_h hG.fp311_24, hG.fo327, hG.fa327, hG.fl327, ↓asP_h hG.fp311_27, hG.fo328, hG.fa328, hG.fl328, ↓asP_h hG.fp311_28, hG.fo329, hG.fa329, hG.fl329, ↓asP_h hG.fp311_31, hG.fo330, hG.fa330, hG.fl330, ↓asP_h hG.fp311_34, hG.fo331, hG.fa331, hG.fl331, ↓asP_h hG.fp311_37, hG.fo332, hG.fa332, hG.fl332, ↓asP_h hG.fp311_38, hG.fo333, hG.fa333, hG.fl333, ↓asP_h hG.fp311_39, hG.fo334, hG.fl334, ↓asP_h hG.fp311_41, hG.fo335, hG.fa335, hG.fl335, ↓asP_h hG.fp311_42, hG.fo336, hG.fa336, hG.fl336, ↓asP_h hG.fp311_43, hG.fo337, hG.fa337, hG.fl337, mI_4, hh.resolve_right cT]
        exact f
    have fr4 : ∀ v, cfr t J (up2 (up2 (up2 J2 318 k (nI l.length)) 319 k v) 316 t (nI (cs.length + 1))) := fun v => (fr3.trans (cfr_up (Or.inl ⟨Or.inr (Or.inr rfl), by omega⟩))).trans (cfr_up (Or.inr ⟨rfl, rfl⟩))
    have ecl2 : clS row lt L a = bnd (cbS row lt L p2) (emS 20059) := by rw [ecl, er, bnd_0]
    rw [ecl2, cb_ts]
    cases hT : (tsS row lt L p2).1 with
    | false =>
      refine ⟨_, a2, F2, fr4 _, ?_, straight (Or.inr hT)⟩
      rw [if_neg (by decide)]
      cases hr : (tsS row lt L p2).2 with
      | error p =>
        rw [hr] at X
        exact X.2.2.2
      | ok x =>
        have ty := ts_ty hr
        rw [hr] at X
        rw [hT, if_neg (by decide)] at ty
        obtain ⟨rfl, g2, g3, rfl, g5⟩ := X.good
        have hlen2 : l2.length = l.length + x.2.length := by rw [g5, List.length_append]
        refine ⟨rfl, g2, g3, ([], x.2), (clT_n (c := ([], x.2)) rfl).symm, ⟨Or.inl rfl, ty⟩, ?_, ?_, ?_, by omega, ?_⟩
        · rw [flat1, hl]
          show LSt row L t _ 0 (l ++ x.2)
          rw [← g5]
          exact (s3.up (by decide)).up (by decide)
        · refine CSt.more (up2_sa _ _ _ _) (fun i hi => ?_) ?_ ?_ ?_
          · have := hcs.2 i hi
            have ho : ∀ b j, 317 ≤ b → b ≤ 319 → j ≠ k → up2 (up2 (up2 J2 318 k (nI l.length)) 319 k (nI l2.length)) 316 t (nI (cs.length + 1)) b j = J b j := fun b j x1 x2 x3 => by rw [up2_o (by omega), up2_o (by omega), up2_o (by omega), old b j (by omega) x2 (by omega)]
            rw [ho 317 _ (by decide) (by decide) (by omega), ho 318 _ (by decide) (by decide) (by omega), ho 319 _ (by decide) (by decide) (by omega)]
            exact this
          · rw [hkk, hl, up2_ne (by decide), up2_ne (by decide), up2_ne (by decide)]
            exact g317
          · rw [hkk, hl, up2_ne (by decide), up2_ne (by decide), up2_sa]
            rfl
          · rw [hkk, hl, up2_ne (by decide), up2_sa, g5, List.length_append]
            rfl
        · rw [flat1, hl]
          show (l ++ x.2).length ≤ a2
          rw [← g5]
          exact hl2.1
        · show (x.2 ++ [20059]).length + a ≤ a2
          rw [g5, List.length_append] at b1
          rw [List.length_append]
          show x.2.length + 1 + a ≤ a2
          omega
    | true =>
      rw [if_pos rfl]
      cases hr : (tsS row lt L p2).2 with
      | error p =>
        rw [hr] at X
        refine ⟨_, a2, F2, fr4 _, ?_, straight (Or.inl X.bad)⟩
        exact X.2.2.2
      | ok x =>
        have ty := ts_ty hr
        rw [hr] at X
        rw [hT, if_pos rfl] at ty
        rw [hT] at run2
        obtain ⟨rfl, g2, g3, rfl, g5⟩ := X.good
        have hs2 := sk_le row g3
        have lk := r_lookL (E := E) (d := d + 47) hG hL s3 g3
        by_cases cq : pk row L a2 = 63
        · have hsL := pkin cq (by decide)
          have s4 := s3.up (b := 318) (k := k) (v := nI l2.length) (by decide)
          obtain ⟨J4, a4, F4, dp4, l4, q1, q2, q3, q4, q5⟩ := ((r_sumAll (E := E) (t := t) hG hL hlt hb 6 0 rfl).to (h' := 48) (by omega)) d _ (sk row L a2 + 1) l2 s4 (by omega) (by omega)
          have Y : LX row L t (up2 (up2 J2 318 k (nI l.length)) 318 k (nI l2.length)) (sk row L a2 + 1) 0 l2 (smS row lt L 6 (sk row L a2 + 1)) J4 a4 F4 dp4 l4 := ⟨q1, q2, q3, q4⟩
          have hl4 := Y.len (by omega) hL
          have b4 : l4.length + (sk row L a2 + 1) ≤ a4 + l2.length := q3.1
          have k4 : ∀ b j, 316 ≤ b → b ≤ 319 → J4 b j = up2 (up2 J2 318 k (nI l.length)) 318 k (nI l2.length) b j := fun b j x1 x2 => q2 b j (by omega)
          have g6 : J4 316 t = nI cs.length := by rw [k4 316 t (by decide) (by decide), up2_ne (by decide)]; exact h6
          have run : Run E (d + 49) mX11_clause [.ref 311] (0, 0) G (mI J a (-1)) none G (mI (up2 (up2 J4 319 k (nI l4.length)) 316 t (nI (cs.length + 1))) a4 F4) := by
            refine pre _ (run2 _ (to196 _ _ ?_))
            have f := fin _ a4 F4 dp4 l4 (some (.int (skI true))) q1 g6
            refine Ex.run TX11_clause [251] 90 ?_
            simp only [↓tX11_clause, ↓opPush, ↓opILoad, ↓opLLoad, ↓opALoad, ↓opIStore, ↓opAStore, ↓opLStore, ↓opIInc, ↓opI1, ↓opII, ↓opID, ↓opLL, ↓opLD, ↓opLI, ↓opI2L, ↓opL2I, ↓opLcmp, ↓opDup, ↓opDupX1, ↓opDup2, ↓opPop, ↓opIf1, ↓opIf2, ↓opGoto, ↓opIRet, ↓opZRet, ↓opLRet, ↓opVRet, ↓opGetI, ↓opGetL, ↓opGetR, ↓opPutI, ↓opPutZ, ↓opPutL, ↓opPutR, ↓opIALoad, ↓opBALoad, ↓opZALoad, ↓opLALoad, ↓opAALoad, ↓opIAStore, ↓opZAStore, ↓opLAStore, ↓opALen, ↓opGetS, ↓opGetC, ↓opStrV, ↓opStrC, ↓opCallV, ↓opCallS, ↓opSw, ↓opCopy, ↓opCallT, ↓opBRet, ↓opObjI, ↓opNew, ↓opNewA, ↓opANew, ↓opAAStore, ↓opMNew, ↓opCallI, ↓wp_s, ↓wp_0, ↓popI_c, ↓popL_c, ↓popR_c, ↓pop1_i, ↓pop1_r, ↓ldI_0, ↓ldI_s, ↓ldL_0, ↓ldL_s, ↓ldR_0, ↓ldR_s, ↓stL_0, ↓stL_s, ↓tk_0, ↓tk_s, ↓Kc_s, ↓Kc_n, isS_0, isS_s, asP_c, gi_0, gi_s, noL_0, noL_s, isW_n, isW_i, isW_r, rcv_c, rcvT_c, swK_0, swK_s, catS, or_false, false_or, not_false_eq_true, not_true_eq_false, true_implies, false_implies, and_true, true_and, ↓reduceIte, Nat.reduceAdd, Nat.reduceLT, Nat.reduceLeDiff, Nat.reduceEqDiff, Nat.reduceSub, forall_const, eq_self, and_self, or_true, true_or, show skI true = 1 from rfl, ne10, hG.fo311, ↓asP_h hG.fp311_1, hG.fo312, hG.fa312, hG.fl312, ↓asP_h hG.fp311_6, hG.fo313, hG.fa313, hG.fl313, ↓asP_h hG.fp311_7, hG.fo314, hG.fa314, hG.fl314, ↓asP_h hG.fp311_8, hG.fo315, hG.fa315, hG.fl315, ↓asP_h hG.fp311_9, hG.fo316, hG.fa316, hG.fl316, ↓asP_h hG.fp311_10, hG.fo317, hG.fa317, hG.fl317, ↓asP_h hG.fp311_11, hG.fo318, hG.fa318, hG.fl318, ↓asP_h hG.fp311_12, hG.fo319, hG.fa319, hG.fl319, ↓asP_h hG.fp311_15, hG.fo320, hG.fa320, hG.fl320, ↓asP_h hG.fp311_16, hG.fo321, hG.fa321, hG.fl321, ↓asP_h hG.fp311_17, hG.fo322, hG.fa322, hG.fl322, ↓asP_h hG.fp311_18, hG.fo323, hG.fa323, hG.fl323, ↓asP_h hG.fp311_19, hG.fo324, hG.fa324, hG.fl324, ↓asP_h hG.fp311_22, hG.fo325, hG.fa325, hG.fl325, ↓asP_h hG.fp311_23, hG.fo326, hG.fa326, hG.fl326, ↓asP_h hG.fp311_24, hG.fo327, hG.fa327, hG.fl327, ↓asP_h hG.fp311_27, hG.fo328, hG.fa328, hG.fl328, ↓asP_h hG.fp311_28, hG.fo329, hG.fa329, hG.fl329, ↓asP_h hG.fp311_31, hG.fo330, hG.fa330, hG.fl330, ↓asP_h hG.fp311_34, hG.fo331, hG.fa331, hG.fl331, ↓asP_h hG.fp311_37, hG.fo332, hG.fa332, hG.fl332, ↓asP_h hG.fp311_38, hG.fo333, hG.fa333, hG.fl333, ↓asP_h hG.fp311_39, hG.fo334, hG.fl334, ↓asP_h hG.fp311_41, hG.fo335, hG.fa335, hG.fl335, ↓asP_h hG.fp311_42, hG.fo336, hG.fa336, hG.fl336, ↓asP_h hG.fp311_43, hG.fo337, hG.fa337, hG.fl337, mI_4]
            refine ⟨_, _, _, _, rfl, lk, ?_⟩
            simp only [↓tX11_clause, ↓opPush, ↓opILoad, ↓opLLoad, ↓opALoad, ↓opIStore, ↓opAStore, ↓opLStore, ↓opIInc, ↓opI1, ↓opII, ↓opID, ↓opLL, ↓opLD, ↓opLI, ↓opI2L, ↓opL2I, ↓opLcmp, ↓opDup, ↓opDupX1, ↓opDup2, ↓opPop, ↓opIf1, ↓opIf2, ↓opGoto, ↓opIRet, ↓opZRet, ↓opLRet, ↓opVRet, ↓opGetI, ↓opGetL, ↓opGetR, ↓opPutI, ↓opPutZ, ↓opPutL, ↓opPutR, ↓opIALoad, ↓opBALoad, ↓opZALoad, ↓opLALoad, ↓opAALoad, ↓opIAStore, ↓opZAStore, ↓opLAStore, ↓opALen, ↓opGetS, ↓opGetC, ↓opStrV, ↓opStrC, ↓opCallV, ↓opCallS, ↓opSw, ↓opCopy, ↓opCallT, ↓opBRet, ↓opObjI, ↓opNew, ↓opNewA, ↓opANew, ↓opAAStore, ↓opMNew, ↓opCallI, ↓wp_s, ↓wp_0, ↓popI_c, ↓popL_c, ↓popR_c, ↓pop1_i, ↓pop1_r, ↓ldI_0, ↓ldI_s, ↓ldL_0, ↓ldL_s, ↓ldR_0, ↓ldR_s, ↓stL_0, ↓stL_s, ↓tk_0, ↓tk_s, ↓Kc_s, ↓Kc_n, isS_0, isS_s, asP_c, gi_0, gi_s, noL_0, noL_s, isW_n, isW_i, isW_r, rcv_c, rcvT_c, swK_0, swK_s, catS, or_false, false_or, not_false_eq_true, not_true_eq_false, true_implies, false_implies, and_true, true_and, ↓reduceIte, Nat.reduceAdd, Nat.reduceLT, Nat.reduceLeDiff, Nat.reduceEqDiff, Nat.reduceSub, forall_const, eq_self, and_self, or_true, true_or, cq, hG.fo311, ↓asP_h hG.fp311_8, hG.fo315, hG.fa315, hG.fl315, ↓asP_h hG.fp311_11, hG.fo318, hG.fa318, hG.fl318, mI_3, nI_1]
            rw [mI_u3]
            simp only [↓tX11_clause, ↓opPush, ↓opILoad, ↓opLLoad, ↓opALoad, ↓opIStore, ↓opAStore, ↓opLStore, ↓opIInc, ↓opI1, ↓opII, ↓opID, ↓opLL, ↓opLD, ↓opLI, ↓opI2L, ↓opL2I, ↓opLcmp, ↓opDup, ↓opDupX1, ↓opDup2, ↓opPop, ↓opIf1, ↓opIf2, ↓opGoto, ↓opIRet, ↓opZRet, ↓opLRet, ↓opVRet, ↓opGetI, ↓opGetL, ↓opGetR, ↓opPutI, ↓opPutZ, ↓opPutL, ↓opPutR, ↓opIALoad, ↓opBALoad, ↓opZALoad, ↓opLALoad, ↓opAALoad, ↓opIAStore, ↓opZAStore, ↓opLAStore, ↓opALen, ↓opGetS, ↓opGetC, ↓opStrV, ↓opStrC, ↓opCallV, ↓opCallS, ↓opSw, ↓opCopy, ↓opCallT, ↓opBRet, ↓opObjI, ↓opNew, ↓opNewA, ↓opANew, ↓opAAStore, ↓opMNew, ↓opCallI, ↓wp_s, ↓wp_0, ↓popI_c, ↓popL_c, ↓popR_c, ↓pop1_i, ↓pop1_r, ↓ldI_0, ↓ldI_s, ↓ldL_0, ↓ldL_s, ↓ldR_0, ↓ldR_s, ↓stL_0, ↓stL_s, ↓tk_0, ↓tk_s, ↓Kc_s, ↓Kc_n, isS_0, isS_s, asP_c, gi_0, gi_s, noL_0, noL_s, isW_n, isW_i, isW_r, rcv_c, rcvT_c, swK_0, swK_s, catS, or_false, false_or, not_false_eq_true, not_true_eq_false, true_implies, false_implies, and_true, true_and, ↓reduceIte, Nat.reduceAdd, Nat.reduceLT, Nat.reduceLeDiff, Nat.reduceEqDiff, Nat.reduceSub, forall_const, eq_self, and_self, or_true, true_or, e14 _ _ _ s3, e315 _ _ _ s3, vp_in_nI ht (by decide), nI_clamp (show t < 2 ^ 31 by omega), vp_in_nI (show k < 700 by omega) (by decide), nI_clamp (show k < 2 ^ 31 by omega)]
            rw [mI_up (by decide)]
            refine ⟨_, _, _, _, rfl, q5, ?_⟩
            simp only [↓tX11_clause, ↓opPush, ↓opILoad, ↓opLLoad, ↓opALoad, ↓opIStore, ↓opAStore, ↓opLStore, ↓opIInc, ↓opI1, ↓opII, ↓opID, ↓opLL, ↓opLD, ↓opLI, ↓opI2L, ↓opL2I, ↓opLcmp, ↓opDup, ↓opDupX1, ↓opDup2, ↓opPop, ↓opIf1, ↓opIf2, ↓opGoto, ↓opIRet, ↓opZRet, ↓opLRet, ↓opVRet, ↓opGetI, ↓opGetL, ↓opGetR, ↓opPutI, ↓opPutZ, ↓opPutL, ↓opPutR, ↓opIALoad, ↓opBALoad, ↓opZALoad, ↓opLALoad, ↓opAALoad, ↓opIAStore, ↓opZAStore, ↓opLAStore, ↓opALen, ↓opGetS, ↓opGetC, ↓opStrV, ↓opStrC, ↓opCallV, ↓opCallS, ↓opSw, ↓opCopy, ↓opCallT, ↓opBRet, ↓opObjI, ↓opNew, ↓opNewA, ↓opANew, ↓opAAStore, ↓opMNew, ↓opCallI, ↓wp_s, ↓wp_0, ↓popI_c, ↓popL_c, ↓popR_c, ↓pop1_i, ↓pop1_r, ↓ldI_0, ↓ldI_s, ↓ldL_0, ↓ldL_s, ↓ldR_0, ↓ldR_s, ↓stL_0, ↓stL_s, ↓tk_0, ↓tk_s, ↓Kc_s, ↓Kc_n, isS_0, isS_s, asP_c, gi_0, gi_s, noL_0, noL_s, isW_n, isW_i, isW_r, rcv_c, rcvT_c, swK_0, swK_s, catS, or_false, false_or, not_false_eq_true, not_true_eq_false, true_implies, false_implies, and_true, true_and, ↓reduceIte, Nat.reduceAdd, Nat.reduceLT, Nat.reduceLeDiff, Nat.reduceEqDiff, Nat.reduceSub, forall_const, eq_self, and_self, or_true, true_or]
            exact f
          have fr5 : cfr t J (up2 (up2 J4 319 k (nI l4.length)) 316 t (nI (cs.length + 1))) := (((fr3.trans (cfr_up (Or.inl ⟨Or.inr (Or.inl rfl), by omega⟩))).trans q2.cfr).trans (cfr_up (Or.inl ⟨Or.inr (Or.inr rfl), by omega⟩))).trans (cfr_up (Or.inr ⟨rfl, rfl⟩))
          refine ⟨_, a4, F4, fr5, ?_, run⟩
          have ew : wantS row L 63 x.1 = .ok (sk row L a2 + 1, []) := by rw [← g2]; exact if_pos cq
          have ec : c2S row lt L x.1 = bnd (.ok (sk row L a2 + 1, [20063])) (smS row lt L 6) := by
            unfold c2S
            rw [ew, bnd_0]
            rfl
          cases hs : smS row lt L 6 (sk row L a2 + 1) with
          | error p =>
            rw [hs] at Y
            have e2 : c2S row lt L x.1 = .error p := by rw [ec]; exact bnd_oe hs
            rw [bnd_oe e2]
            exact Y.2.2.2
          | ok y =>
            rw [hs] at Y
            have e2 : c2S row lt L x.1 = .ok (y.1, [20063] ++ y.2) := by rw [ec]; exact bnd_oo hs
            have ty2 := ty_sm 6 _ _ hs
            obtain ⟨rfl, i2, i3, rfl, i5⟩ := Y.good
            have hne := ty_ne (by omega) ty
            have e3 : bnd (bnd (.ok x) (c2S row lt L)) (emS 20059) = .ok (y.1, x.2 ++ ([20063] ++ y.2) ++ [20059]) := by rw [bnd_oo e2]; rfl
            rw [e3]
            have hlen2 : l2.length = l.length + x.2.length := by rw [g5, List.length_append]
            have hlen4 : l4.length = l2.length + y.2.length := by rw [i5, List.length_append]
            refine ⟨rfl, i2, i3, (x.2, y.2), ?_, ⟨Or.inr ty, ty2⟩, ?_, ?_, ?_, by omega, ?_⟩
            · rw [clT_y (c := (x.2, y.2)) hne]
              simp
            · rw [flat1, hl]
              show LSt row L t _ 0 (l ++ (x.2 ++ y.2))
              rw [← List.append_assoc, ← g5, ← i5]
              exact (q1.up (by decide)).up (by decide)
            · refine CSt.more (up2_sa _ _ _ _) (fun i hi => ?_) ?_ ?_ ?_
              · have := hcs.2 i hi
                rw [up2_ne (by decide), up2_ne (by decide), up2_ne (by decide), up2_ne (by decide), up2_ne (by decide), up2_o (by omega), k4 317 _ (by decide) (by decide), k4 318 _ (by decide) (by decide), k4 319 _ (by decide) (by decide), up2_ne (by decide), up2_ne (by decide), up2_nk (by omega), up2_nk (by omega), up2_ne (by decide), up2_ne (by decide), old 317 _ (by decide) (by decide) (by omega), old 318 _ (by decide) (by decide) (by omega), old 319 _ (by decide) (by decide) (by omega)]
                exact this
              · rw [hkk, hl, up2_ne (by decide), up2_ne (by decide), k4 317 _ (by decide) (by decide), up2_ne (by decide), up2_ne (by decide)]
                exact g317
              · rw [hkk, hl, up2_ne (by decide), up2_ne (by decide), k4 318 _ (by decide) (by decide), up2_sa, g5, List.length_append]
              · rw [hkk, hl, up2_ne (by decide), up2_sa, i5, g5, List.length_append, List.length_append]
            · rw [flat1, hl]
              show (l ++ (x.2 ++ y.2)).length ≤ a4
              rw [← List.append_assoc, ← g5, ← i5]
              exact hl4.1
            · show (x.2 ++ ([20063] ++ y.2) ++ [20059]).length + a ≤ a4
              rw [i5, g5, List.length_append, List.length_append] at b4
              rw [g5, List.length_append] at b1
              simp only [List.length_append, List.length_cons, List.length_nil] at *
              omega
        · have bd : Run E (d + 48) mX11_bad [.ref 311] (0, 0) G (mI (up2 J2 318 k (nI l.length)) (sk row L a2) (-1)) none G (mI (up2 J2 318 k (nI l.length)) (sk row L a2) (nI (sk row L a2))) := r_bad hG _ (-1)
          have run : Run E (d + 49) mX11_clause [.ref 311] (0, 0) G (mI J a (-1)) none G (mI (up2 J2 318 k (nI l.length)) (sk row L a2) (nI (sk row L a2))) := by
            refine pre _ (run2 _ (to196 _ _ ?_))
            refine Ex.run TX11_clause [] 90 ?_
            simp only [↓tX11_clause, ↓opPush, ↓opILoad, ↓opLLoad, ↓opALoad, ↓opIStore, ↓opAStore, ↓opLStore, ↓opIInc, ↓opI1, ↓opII, ↓opID, ↓opLL, ↓opLD, ↓opLI, ↓opI2L, ↓opL2I, ↓opLcmp, ↓opDup, ↓opDupX1, ↓opDup2, ↓opPop, ↓opIf1, ↓opIf2, ↓opGoto, ↓opIRet, ↓opZRet, ↓opLRet, ↓opVRet, ↓opGetI, ↓opGetL, ↓opGetR, ↓opPutI, ↓opPutZ, ↓opPutL, ↓opPutR, ↓opIALoad, ↓opBALoad, ↓opZALoad, ↓opLALoad, ↓opAALoad, ↓opIAStore, ↓opZAStore, ↓opLAStore, ↓opALen, ↓opGetS, ↓opGetC, ↓opStrV, ↓opStrC, ↓opCallV, ↓opCallS, ↓opSw, ↓opCopy, ↓opCallT, ↓opBRet, ↓opObjI, ↓opNew, ↓opNewA, ↓opANew, ↓opAAStore, ↓opMNew, ↓opCallI, ↓wp_s, ↓wp_0, ↓popI_c, ↓popL_c, ↓popR_c, ↓pop1_i, ↓pop1_r, ↓ldI_0, ↓ldI_s, ↓ldL_0, ↓ldL_s, ↓ldR_0, ↓ldR_s, ↓stL_0, ↓stL_s, ↓tk_0, ↓tk_s, ↓Kc_s, ↓Kc_n, isS_0, isS_s, asP_c, gi_0, gi_s, noL_0, noL_s, isW_n, isW_i, isW_r, rcv_c, rcvT_c, swK_0, swK_s, catS, or_false, false_or, not_false_eq_true, not_true_eq_false, true_implies, false_implies, and_true, true_and, ↓reduceIte, Nat.reduceAdd, Nat.reduceLT, Nat.reduceLeDiff, Nat.reduceEqDiff, Nat.reduceSub, forall_const, eq_self, and_self, or_true, true_or, show skI true = 1 from rfl, ne10, hG.fo311, ↓asP_h hG.fp311_1, hG.fo312, hG.fa312, hG.fl312, ↓asP_h hG.fp311_6, hG.fo313, hG.fa313, hG.fl313, ↓asP_h hG.fp311_7, hG.fo314, hG.fa314, hG.fl314, ↓asP_h hG.fp311_8, hG.fo315, hG.fa315, hG.fl315, ↓asP_h hG.fp311_9, hG.fo316, hG.fa316, hG.fl316, ↓asP_h hG.fp311_10, hG.fo317, hG.fa317, hG.fl317, ↓asP_h hG.fp311_11, hG.fo318, hG.fa318, hG.fl318, ↓asP_h hG.fp311_12, hG.fo319, hG.fa319, hG.fl319, ↓asP_h hG.fp311_15, hG.fo320, hG.fa320, hG.fl320, ↓asP_h hG.fp311_16, hG.fo321, hG.fa321, hG.fl321, ↓asP_h hG.fp311_17, hG.fo322, hG.fa322, hG.fl322, ↓asP_h hG.fp311_18, hG.fo323, hG.fa323, hG.fl323, ↓asP_h hG.fp311_19, hG.fo324, hG.fa324, hG.fl324, ↓asP_h hG.fp311_22, hG.fo325, hG.fa325, hG.fl325, ↓asP_h hG.fp311_23, hG.fo326, hG.fa326, hG.fl326, ↓asP_h hG.fp311_24, hG.fo327, hG.fa327, hG.fl327, ↓asP_h hG.fp311_27, hG.fo328, hG.fa328, hG.fl328, ↓asP_h hG.fp311_28, hG.fo329, hG.fa329, hG.fl329, ↓asP_h hG.fp311_31, hG.fo330, hG.fa330, hG.fl330, ↓asP_h hG.fp311_34, hG.fo331, hG.fa331, hG.fl331, ↓asP_h hG.fp311_37, hG.fo332, hG.fa332, hG.fl332, ↓asP_h hG.fp311_38, hG.fo333, hG.fa333, hG.fl333, ↓asP_h hG.fp311_39, hG.fo334, hG.fl334, ↓asP_h hG.fp311_41, hG.fo335, hG.fa335, hG.fl335, ↓asP_h hG.fp311_42, hG.fo336, hG.fa336, hG.fl336, ↓asP_h hG.fp311_43, hG.fo337, hG.fa337, hG.fl337, mI_4]
            refine ⟨_, _, _, _, rfl, lk, ?_⟩
            simp only [↓tX11_clause, ↓opPush, ↓opILoad, ↓opLLoad, ↓opALoad, ↓opIStore, ↓opAStore, ↓opLStore, ↓opIInc, ↓opI1, ↓opII, ↓opID, ↓opLL, ↓opLD, ↓opLI, ↓opI2L, ↓opL2I, ↓opLcmp, ↓opDup, ↓opDupX1, ↓opDup2, ↓opPop, ↓opIf1, ↓opIf2, ↓opGoto, ↓opIRet, ↓opZRet, ↓opLRet, ↓opVRet, ↓opGetI, ↓opGetL, ↓opGetR, ↓opPutI, ↓opPutZ, ↓opPutL, ↓opPutR, ↓opIALoad, ↓opBALoad, ↓opZALoad, ↓opLALoad, ↓opAALoad, ↓opIAStore, ↓opZAStore, ↓opLAStore, ↓opALen, ↓opGetS, ↓opGetC, ↓opStrV, ↓opStrC, ↓opCallV, ↓opCallS, ↓opSw, ↓opCopy, ↓opCallT, ↓opBRet, ↓opObjI, ↓opNew, ↓opNewA, ↓opANew, ↓opAAStore, ↓opMNew, ↓opCallI, ↓wp_s, ↓wp_0, ↓popI_c, ↓popL_c, ↓popR_c, ↓pop1_i, ↓pop1_r, ↓ldI_0, ↓ldI_s, ↓ldL_0, ↓ldL_s, ↓ldR_0, ↓ldR_s, ↓stL_0, ↓stL_s, ↓tk_0, ↓tk_s, ↓Kc_s, ↓Kc_n, isS_0, isS_s, asP_c, gi_0, gi_s, noL_0, noL_s, isW_n, isW_i, isW_r, rcv_c, rcvT_c, swK_0, swK_s, catS, or_false, false_or, not_false_eq_true, not_true_eq_false, true_implies, false_implies, and_true, true_and, ↓reduceIte, Nat.reduceAdd, Nat.reduceLT, Nat.reduceLeDiff, Nat.reduceEqDiff, Nat.reduceSub, forall_const, eq_self, and_self, or_true, true_or, cq, hG.fo311, ↓asP_h hG.fp311_1, hG.fo312, hG.fa312, hG.fl312, ↓asP_h hG.fp311_6, hG.fo313, hG.fa313, hG.fl313, ↓asP_h hG.fp311_7, hG.fo314, hG.fa314, hG.fl314, ↓asP_h hG.fp311_8, hG.fo315, hG.fa315, hG.fl315, ↓asP_h hG.fp311_9, hG.fo316, hG.fa316, hG.fl316, ↓asP_h hG.fp311_10, hG.fo317, hG.fa317, hG.fl317, ↓asP_h hG.fp311_11, hG.fo318, hG.fa318, hG.fl318, ↓asP_h hG.fp311_12, hG.fo319, hG.fa319, hG.fl319, ↓asP_h hG.fp311_15, hG.fo320, hG.fa320, hG.fl320, ↓asP_h hG.fp311_16, hG.fo321, hG.fa321, hG.fl321, ↓asP_h hG.fp311_17, hG.fo322, hG.fa322, hG.fl322, ↓asP_h hG.fp311_18, hG.fo323, hG.fa323, hG.fl323, ↓asP_h hG.fp311_19, hG.fo324, hG.fa324, hG.fl324, ↓asP_h hG.fp311_22, hG.fo325, hG.fa325, hG.fl325, ↓asP_h hG.fp311_23, hG.fo326, hG.fa326, hG.fl326, ↓asP_h hG.fp311_24, hG.fo327, hG.fa327, hG.fl327, ↓asP_h hG.fp311_27, hG.fo328, hG.fa328, hG.fl328, ↓asP_h hG.fp311_28, hG.fo329, hG.fa329, hG.fl329, ↓asP_h hG.fp311_31, hG.fo330, hG.fa330, hG.fl330, ↓asP_h hG.fp311_34, hG.fo331, hG.fa331, hG.fl331, ↓asP_h hG.fp311_37, hG.fo332, hG.fa332, hG.fl332, ↓asP_h hG.fp311_38, hG.fo333, hG.fa333, hG.fl333, ↓asP_h hG.fp311_39, hG.fo334, hG.fl334, ↓asP_h hG.fp311_41, hG.fo335, hG.fa335, hG.fl335, ↓asP_h hG.fp311_42, hG.fo336, hG.fa336, hG.fl336, ↓asP_h hG.fp311_43, hG.fo337, hG.fa337, hG.fl337]
            refine ⟨_, _, _, _, rfl, bd, ?_⟩
            simp only [↓tX11_clause, ↓opPush, ↓opILoad, ↓opLLoad, ↓opALoad, ↓opIStore, ↓opAStore, ↓opLStore, ↓opIInc, ↓opI1, ↓opII, ↓opID, ↓opLL, ↓opLD, ↓opLI, ↓opI2L, ↓opL2I, ↓opLcmp, ↓opDup, ↓opDupX1, ↓opDup2, ↓opPop, ↓opIf1, ↓opIf2, ↓opGoto, ↓opIRet, ↓opZRet, ↓opLRet, ↓opVRet, ↓opGetI, ↓opGetL, ↓opGetR, ↓opPutI, ↓opPutZ, ↓opPutL, ↓opPutR, ↓opIALoad, ↓opBALoad, ↓opZALoad, ↓opLALoad, ↓opAALoad, ↓opIAStore, ↓opZAStore, ↓opLAStore, ↓opALen, ↓opGetS, ↓opGetC, ↓opStrV, ↓opStrC, ↓opCallV, ↓opCallS, ↓opSw, ↓opCopy, ↓opCallT, ↓opBRet, ↓opObjI, ↓opNew, ↓opNewA, ↓opANew, ↓opAAStore, ↓opMNew, ↓opCallI, ↓wp_s, ↓wp_0, ↓popI_c, ↓popL_c, ↓popR_c, ↓pop1_i, ↓pop1_r, ↓ldI_0, ↓ldI_s, ↓ldL_0, ↓ldL_s, ↓ldR_0, ↓ldR_s, ↓stL_0, ↓stL_s, ↓tk_0, ↓tk_s, ↓Kc_s, ↓Kc_n, isS_0, isS_s, asP_c, gi_0, gi_s, noL_0, noL_s, isW_n, isW_i, isW_r, rcv_c, rcvT_c, swK_0, swK_s, catS, or_false, false_or, not_false_eq_true, not_true_eq_false, true_implies, false_implies, and_true, true_and, ↓reduceIte, Nat.reduceAdd, Nat.reduceLT, Nat.reduceLeDiff, Nat.reduceEqDiff, Nat.reduceSub, forall_const, eq_self, and_self, or_true, true_or]
          refine ⟨_, sk row L a2, nI (sk row L a2), fr3, ?_, run⟩
          have ew : wantS row L 63 x.1 = .error (sk row L a2) := by rw [← g2]; exact if_neg cq
          have ec : c2S row lt L x.1 = .error (sk row L a2) := by
            unfold c2S
            rw [ew]
            rfl
          rw [bnd_oe ec]
          exact ⟨rfl, by omega⟩
/-- where the first fault of n clauses from a on is -/
def lfN (row lt : Nat → Int32) (L n a : Nat) : Int32 := match lwS row lt L n a with
  | .error p => nI p
  | .ok x => if pk row L x.1 = -1 then -1 else nI (sk row L x.1)
/-- what the reading of a whole law leaves -/
def LW (row lt : Nat → Int32) (L t : Nat) (cs : CLs) (n a : Nat) (J' : IM) : Prop := lfN row lt L n a = -1 → ∃ cs' x, lwS row lt L n a = .ok x ∧ x.2 = cs'.flatMap clT ∧ (∀ c ∈ cs', clOK c) ∧ LSt row L t J' 0 ((cs ++ cs').flatMap clF) ∧ CSt J' t (cs ++ cs') ∧ x.2.length + a ≤ 240
theorem mI_id (J : IM) (a b : Nat) (F F2 : Int32) : mI (mI J a F) b F2 = mI J b F2 := by
  show up2 (up2 (mI J a F) 311 3 (nI b)) 311 4 F2 = _
  rw [mI_u3, mI_u4]
theorem mI_LSt {row : Nat → Int32} {L t : Nat} {J : IM} {dp : Nat} {l : List Int32} (h : LSt row L t J dp l) (a : Nat) (F : Int32) : LSt row L t (mI J a F) dp l := by
  obtain ⟨h1, h2, h3, h4, h5, h6, h7⟩ := h
  exact ⟨by rw [mI_k (by decide) (by decide)]; exact h1, by rw [mI_ne (by decide)]; exact h2, h3, by rw [mI_k (by decide) (by decide)]; exact h4, by rw [mI_k (by decide) (by decide)]; exact h5, by rw [mI_ne (by decide)]; exact h6, fun i hi => by rw [mI_ne (by decide), mI_ne (by decide)]; exact h7 i hi⟩
theorem mI_CSt {J : IM} {t : Nat} {cs : CLs} (h : CSt J t cs) (a : Nat) (F : Int32) : CSt (mI J a F) t cs := by
  unfold CSt
  rw [mI_ne (by decide), mI_ne (by decide), mI_ne (by decide), mI_ne (by decide)]
  exact h
theorem mI_cfr {J J' : IM} {t : Nat} (h : cfr t J J') (a : Nat) (F : Int32) : cfr t J (mI J' a F) := fun b k q => by
  by_cases e : b = 311
  · subst e
    rw [mI_k (fun z => q (by omega)) (fun z => q (by omega))]
    exact h _ _ q
  · rw [mI_ne e]
    exact h _ _ q
set_option maxRecDepth 100000 in
set_option maxHeartbeats 4000000 in
theorem r_atEnd (hG : GTs G) (hL : L ≤ 240) {dp : Nat} {l : List Int32} (hst : LSt row L t J dp l) {a : Nat} (ha : a ≤ L) : Run E (d + 2) mX11_atEnd [.ref 311] (0, 0) G (mI J a (-1)) (some (.int (if pk row L a = -1 then -1 else nI (sk row L a)))) G (mI J (sk row L a) (if pk row L a = -1 then -1 else nI (sk row L a))) := by
  have lk := r_lookL (E := E) (d := d) hG hL hst ha
  refine Ct.run okX11_atEnd TX11_atEnd [] 60 rfl rfl ?_
  simp only [↓tX11_atEnd, ↓opPush, ↓opILoad, ↓opLLoad, ↓opALoad, ↓opIStore, ↓opAStore, ↓opLStore, ↓opIInc, ↓opI1, ↓opII, ↓opID, ↓opLL, ↓opLD, ↓opLI, ↓opI2L, ↓opL2I, ↓opLcmp, ↓opDup, ↓opDupX1, ↓opDup2, ↓opPop, ↓opIf1, ↓opIf2, ↓opGoto, ↓opIRet, ↓opZRet, ↓opLRet, ↓opVRet, ↓opGetI, ↓opGetL, ↓opGetR, ↓opPutI, ↓opPutZ, ↓opPutL, ↓opPutR, ↓opIALoad, ↓opBALoad, ↓opZALoad, ↓opLALoad, ↓opAALoad, ↓opIAStore, ↓opZAStore, ↓opLAStore, ↓opALen, ↓opGetS, ↓opGetC, ↓opStrV, ↓opStrC, ↓opCallV, ↓opCallS, ↓opSw, ↓opCopy, ↓opCallT, ↓opBRet, ↓opObjI, ↓opNew, ↓opNewA, ↓opANew, ↓opAAStore, ↓opMNew, ↓opCallI, ↓wp_s, ↓wp_0, ↓popI_c, ↓popL_c, ↓popR_c, ↓pop1_i, ↓pop1_r, ↓ldI_0, ↓ldI_s, ↓ldL_0, ↓ldL_s, ↓ldR_0, ↓ldR_s, ↓stL_0, ↓stL_s, ↓tk_0, ↓tk_s, ↓Kc_s, ↓Kc_n, isS_0, isS_s, asP_c, gi_0, gi_s, noL_0, noL_s, isW_n, isW_i, isW_r, rcv_c, rcvT_c, swK_0, swK_s, catS, or_false, false_or, not_false_eq_true, not_true_eq_false, true_implies, false_implies, and_true, true_and, ↓reduceIte, Nat.reduceAdd, Nat.reduceLT, Nat.reduceLeDiff, Nat.reduceEqDiff, Nat.reduceSub, forall_const, eq_self, and_self, or_true, true_or, lve_i, lve_r, lve_l, lve_0, List.replicate_succ, List.replicate_zero, mX, mX11_atEnd, hG.fo311, ↓asP_h hG.fp311_1, hG.fo312, hG.fa312, hG.fl312, ↓asP_h hG.fp311_6, hG.fo313, hG.fa313, hG.fl313, ↓asP_h hG.fp311_7, hG.fo314, hG.fa314, hG.fl314, ↓asP_h hG.fp311_8, hG.fo315, hG.fa315, hG.fl315, ↓asP_h hG.fp311_9, hG.fo316, hG.fa316, hG.fl316, ↓asP_h hG.fp311_10, hG.fo317, hG.fa317, hG.fl317, ↓asP_h hG.fp311_11, hG.fo318, hG.fa318, hG.fl318, ↓asP_h hG.fp311_12, hG.fo319, hG.fa319, hG.fl319, ↓asP_h hG.fp311_15, hG.fo320, hG.fa320, hG.fl320, ↓asP_h hG.fp311_16, hG.fo321, hG.fa321, hG.fl321, ↓asP_h hG.fp311_17, hG.fo322, hG.fa322, hG.fl322, ↓asP_h hG.fp311_18, hG.fo323, hG.fa323, hG.fl323, ↓asP_h hG.fp311_19, hG.fo324, hG.fa324, hG.fl324, ↓asP_h hG.fp311_22, hG.fo325, hG.fa325, hG.fl325, ↓asP_h hG.fp311_23, hG.fo326, hG.fa326, hG.fl326, ↓asP_h hG.fp311_24, hG.fo327, hG.fa327, hG.fl327, ↓asP_h hG.fp311_27, hG.fo328, hG.fa328, hG.fl328, ↓asP_h hG.fp311_28, hG.fo329, hG.fa329, hG.fl329, ↓asP_h hG.fp311_31, hG.fo330, hG.fa330, hG.fl330, ↓asP_h hG.fp311_34, hG.fo331, hG.fa331, hG.fl331, ↓asP_h hG.fp311_37, hG.fo332, hG.fa332, hG.fl332, ↓asP_h hG.fp311_38, hG.fo333, hG.fa333, hG.fl333, ↓asP_h hG.fp311_39, hG.fo334, hG.fl334, ↓asP_h hG.fp311_41, hG.fo335, hG.fa335, hG.fl335, ↓asP_h hG.fp311_42, hG.fo336, hG.fa336, hG.fl336, ↓asP_h hG.fp311_43, hG.fo337, hG.fa337, hG.fl337, mI_4]
  refine ⟨_, _, _, _, rfl, lk, ?_⟩
  by_cases c : pk row L a = -1
  · rw [if_pos c]
    simp only [↓tX11_atEnd, ↓opPush, ↓opILoad, ↓opLLoad, ↓opALoad, ↓opIStore, ↓opAStore, ↓opLStore, ↓opIInc, ↓opI1, ↓opII, ↓opID, ↓opLL, ↓opLD, ↓opLI, ↓opI2L, ↓opL2I, ↓opLcmp, ↓opDup, ↓opDupX1, ↓opDup2, ↓opPop, ↓opIf1, ↓opIf2, ↓opGoto, ↓opIRet, ↓opZRet, ↓opLRet, ↓opVRet, ↓opGetI, ↓opGetL, ↓opGetR, ↓opPutI, ↓opPutZ, ↓opPutL, ↓opPutR, ↓opIALoad, ↓opBALoad, ↓opZALoad, ↓opLALoad, ↓opAALoad, ↓opIAStore, ↓opZAStore, ↓opLAStore, ↓opALen, ↓opGetS, ↓opGetC, ↓opStrV, ↓opStrC, ↓opCallV, ↓opCallS, ↓opSw, ↓opCopy, ↓opCallT, ↓opBRet, ↓opObjI, ↓opNew, ↓opNewA, ↓opANew, ↓opAAStore, ↓opMNew, ↓opCallI, ↓wp_s, ↓wp_0, ↓popI_c, ↓popL_c, ↓popR_c, ↓pop1_i, ↓pop1_r, ↓ldI_0, ↓ldI_s, ↓ldL_0, ↓ldL_s, ↓ldR_0, ↓ldR_s, ↓stL_0, ↓stL_s, ↓tk_0, ↓tk_s, ↓Kc_s, ↓Kc_n, isS_0, isS_s, asP_c, gi_0, gi_s, noL_0, noL_s, isW_n, isW_i, isW_r, rcv_c, rcvT_c, swK_0, swK_s, catS, or_false, false_or, not_false_eq_true, not_true_eq_false, true_implies, false_implies, and_true, true_and, ↓reduceIte, Nat.reduceAdd, Nat.reduceLT, Nat.reduceLeDiff, Nat.reduceEqDiff, Nat.reduceSub, forall_const, eq_self, and_self, or_true, true_or, c, hG.fo311, ↓asP_h hG.fp311_1, hG.fo312, hG.fa312, hG.fl312, ↓asP_h hG.fp311_6, hG.fo313, hG.fa313, hG.fl313, ↓asP_h hG.fp311_7, hG.fo314, hG.fa314, hG.fl314, ↓asP_h hG.fp311_8, hG.fo315, hG.fa315, hG.fl315, ↓asP_h hG.fp311_9, hG.fo316, hG.fa316, hG.fl316, ↓asP_h hG.fp311_10, hG.fo317, hG.fa317, hG.fl317, ↓asP_h hG.fp311_11, hG.fo318, hG.fa318, hG.fl318, ↓asP_h hG.fp311_12, hG.fo319, hG.fa319, hG.fl319, ↓asP_h hG.fp311_15, hG.fo320, hG.fa320, hG.fl320, ↓asP_h hG.fp311_16, hG.fo321, hG.fa321, hG.fl321, ↓asP_h hG.fp311_17, hG.fo322, hG.fa322, hG.fl322, ↓asP_h hG.fp311_18, hG.fo323, hG.fa323, hG.fl323, ↓asP_h hG.fp311_19, hG.fo324, hG.fa324, hG.fl324, ↓asP_h hG.fp311_22, hG.fo325, hG.fa325, hG.fl325, ↓asP_h hG.fp311_23, hG.fo326, hG.fa326, hG.fl326, ↓asP_h hG.fp311_24, hG.fo327, hG.fa327, hG.fl327, ↓asP_h hG.fp311_27, hG.fo328, hG.fa328, hG.fl328, ↓asP_h hG.fp311_28, hG.fo329, hG.fa329, hG.fl329, ↓asP_h hG.fp311_31, hG.fo330, hG.fa330, hG.fl330, ↓asP_h hG.fp311_34, hG.fo331, hG.fa331, hG.fl331, ↓asP_h hG.fp311_37, hG.fo332, hG.fa332, hG.fl332, ↓asP_h hG.fp311_38, hG.fo333, hG.fa333, hG.fl333, ↓asP_h hG.fp311_39, hG.fo334, hG.fl334, ↓asP_h hG.fp311_41, hG.fo335, hG.fa335, hG.fl335, ↓asP_h hG.fp311_42, hG.fo336, hG.fa336, hG.fl336, ↓asP_h hG.fp311_43, hG.fo337, hG.fa337, hG.fl337, mI_4]
  · have bd : Run E (d + 1) mX11_bad [.ref 311] (0, 0) G (mI J (sk row L a) (-1)) none G (mI J (sk row L a) (nI (sk row L a))) := r_bad hG _ (-1)
    rw [if_neg c]
    simp only [↓tX11_atEnd, ↓opPush, ↓opILoad, ↓opLLoad, ↓opALoad, ↓opIStore, ↓opAStore, ↓opLStore, ↓opIInc, ↓opI1, ↓opII, ↓opID, ↓opLL, ↓opLD, ↓opLI, ↓opI2L, ↓opL2I, ↓opLcmp, ↓opDup, ↓opDupX1, ↓opDup2, ↓opPop, ↓opIf1, ↓opIf2, ↓opGoto, ↓opIRet, ↓opZRet, ↓opLRet, ↓opVRet, ↓opGetI, ↓opGetL, ↓opGetR, ↓opPutI, ↓opPutZ, ↓opPutL, ↓opPutR, ↓opIALoad, ↓opBALoad, ↓opZALoad, ↓opLALoad, ↓opAALoad, ↓opIAStore, ↓opZAStore, ↓opLAStore, ↓opALen, ↓opGetS, ↓opGetC, ↓opStrV, ↓opStrC, ↓opCallV, ↓opCallS, ↓opSw, ↓opCopy, ↓opCallT, ↓opBRet, ↓opObjI, ↓opNew, ↓opNewA, ↓opANew, ↓opAAStore, ↓opMNew, ↓opCallI, ↓wp_s, ↓wp_0, ↓popI_c, ↓popL_c, ↓popR_c, ↓pop1_i, ↓pop1_r, ↓ldI_0, ↓ldI_s, ↓ldL_0, ↓ldL_s, ↓ldR_0, ↓ldR_s, ↓stL_0, ↓stL_s, ↓tk_0, ↓tk_s, ↓Kc_s, ↓Kc_n, isS_0, isS_s, asP_c, gi_0, gi_s, noL_0, noL_s, isW_n, isW_i, isW_r, rcv_c, rcvT_c, swK_0, swK_s, catS, or_false, false_or, not_false_eq_true, not_true_eq_false, true_implies, false_implies, and_true, true_and, ↓reduceIte, Nat.reduceAdd, Nat.reduceLT, Nat.reduceLeDiff, Nat.reduceEqDiff, Nat.reduceSub, forall_const, eq_self, and_self, or_true, true_or, c, hG.fo311, ↓asP_h hG.fp311_1, hG.fo312, hG.fa312, hG.fl312, ↓asP_h hG.fp311_6, hG.fo313, hG.fa313, hG.fl313, ↓asP_h hG.fp311_7, hG.fo314, hG.fa314, hG.fl314, ↓asP_h hG.fp311_8, hG.fo315, hG.fa315, hG.fl315, ↓asP_h hG.fp311_9, hG.fo316, hG.fa316, hG.fl316, ↓asP_h hG.fp311_10, hG.fo317, hG.fa317, hG.fl317, ↓asP_h hG.fp311_11, hG.fo318, hG.fa318, hG.fl318, ↓asP_h hG.fp311_12, hG.fo319, hG.fa319, hG.fl319, ↓asP_h hG.fp311_15, hG.fo320, hG.fa320, hG.fl320, ↓asP_h hG.fp311_16, hG.fo321, hG.fa321, hG.fl321, ↓asP_h hG.fp311_17, hG.fo322, hG.fa322, hG.fl322, ↓asP_h hG.fp311_18, hG.fo323, hG.fa323, hG.fl323, ↓asP_h hG.fp311_19, hG.fo324, hG.fa324, hG.fl324, ↓asP_h hG.fp311_22, hG.fo325, hG.fa325, hG.fl325, ↓asP_h hG.fp311_23, hG.fo326, hG.fa326, hG.fl326, ↓asP_h hG.fp311_24, hG.fo327, hG.fa327, hG.fl327, ↓asP_h hG.fp311_27, hG.fo328, hG.fa328, hG.fl328, ↓asP_h hG.fp311_28, hG.fo329, hG.fa329, hG.fl329, ↓asP_h hG.fp311_31, hG.fo330, hG.fa330, hG.fl330, ↓asP_h hG.fp311_34, hG.fo331, hG.fa331, hG.fl331, ↓asP_h hG.fp311_37, hG.fo332, hG.fa332, hG.fl332, ↓asP_h hG.fp311_38, hG.fo333, hG.fa333, hG.fl333, ↓asP_h hG.fp311_39, hG.fo334, hG.fl334, ↓asP_h hG.fp311_41, hG.fo335, hG.fa335, hG.fl335, ↓asP_h hG.fp311_42, hG.fo336, hG.fa336, hG.fl336, ↓asP_h hG.fp311_43, hG.fo337, hG.fa337, hG.fl337]
    refine ⟨_, _, _, _, rfl, bd, ?_⟩
    simp only [↓tX11_atEnd, ↓opPush, ↓opILoad, ↓opLLoad, ↓opALoad, ↓opIStore, ↓opAStore, ↓opLStore, ↓opIInc, ↓opI1, ↓opII, ↓opID, ↓opLL, ↓opLD, ↓opLI, ↓opI2L, ↓opL2I, ↓opLcmp, ↓opDup, ↓opDupX1, ↓opDup2, ↓opPop, ↓opIf1, ↓opIf2, ↓opGoto, ↓opIRet, ↓opZRet, ↓opLRet, ↓opVRet, ↓opGetI, ↓opGetL, ↓opGetR, ↓opPutI, ↓opPutZ, ↓opPutL, ↓opPutR, ↓opIALoad, ↓opBALoad, ↓opZALoad, ↓opLALoad, ↓opAALoad, ↓opIAStore, ↓opZAStore, ↓opLAStore, ↓opALen, ↓opGetS, ↓opGetC, ↓opStrV, ↓opStrC, ↓opCallV, ↓opCallS, ↓opSw, ↓opCopy, ↓opCallT, ↓opBRet, ↓opObjI, ↓opNew, ↓opNewA, ↓opANew, ↓opAAStore, ↓opMNew, ↓opCallI, ↓wp_s, ↓wp_0, ↓popI_c, ↓popL_c, ↓popR_c, ↓pop1_i, ↓pop1_r, ↓ldI_0, ↓ldI_s, ↓ldL_0, ↓ldL_s, ↓ldR_0, ↓ldR_s, ↓stL_0, ↓stL_s, ↓tk_0, ↓tk_s, ↓Kc_s, ↓Kc_n, isS_0, isS_s, asP_c, gi_0, gi_s, noL_0, noL_s, isW_n, isW_i, isW_r, rcv_c, rcvT_c, swK_0, swK_s, catS, or_false, false_or, not_false_eq_true, not_true_eq_false, true_implies, false_implies, and_true, true_and, ↓reduceIte, Nat.reduceAdd, Nat.reduceLT, Nat.reduceLeDiff, Nat.reduceEqDiff, Nat.reduceSub, forall_const, eq_self, and_self, or_true, true_or, hG.fo311, ↓asP_h hG.fp311_1, hG.fo312, hG.fa312, hG.fl312, ↓asP_h hG.fp311_6, hG.fo313, hG.fa313, hG.fl313, ↓asP_h hG.fp311_7, hG.fo314, hG.fa314, hG.fl314, ↓asP_h hG.fp311_8, hG.fo315, hG.fa315, hG.fl315, ↓asP_h hG.fp311_9, hG.fo316, hG.fa316, hG.fl316, ↓asP_h hG.fp311_10, hG.fo317, hG.fa317, hG.fl317, ↓asP_h hG.fp311_11, hG.fo318, hG.fa318, hG.fl318, ↓asP_h hG.fp311_12, hG.fo319, hG.fa319, hG.fl319, ↓asP_h hG.fp311_15, hG.fo320, hG.fa320, hG.fl320, ↓asP_h hG.fp311_16, hG.fo321, hG.fa321, hG.fl321, ↓asP_h hG.fp311_17, hG.fo322, hG.fa322, hG.fl322, ↓asP_h hG.fp311_18, hG.fo323, hG.fa323, hG.fl323, ↓asP_h hG.fp311_19, hG.fo324, hG.fa324, hG.fl324, ↓asP_h hG.fp311_22, hG.fo325, hG.fa325, hG.fl325, ↓asP_h hG.fp311_23, hG.fo326, hG.fa326, hG.fl326, ↓asP_h hG.fp311_24, hG.fo327, hG.fa327, hG.fl327, ↓asP_h hG.fp311_27, hG.fo328, hG.fa328, hG.fl328, ↓asP_h hG.fp311_28, hG.fo329, hG.fa329, hG.fl329, ↓asP_h hG.fp311_31, hG.fo330, hG.fa330, hG.fl330, ↓asP_h hG.fp311_34, hG.fo331, hG.fa331, hG.fl331, ↓asP_h hG.fp311_37, hG.fo332, hG.fa332, hG.fl332, ↓asP_h hG.fp311_38, hG.fo333, hG.fa333, hG.fl333, ↓asP_h hG.fp311_39, hG.fo334, hG.fl334, ↓asP_h hG.fp311_41, hG.fo335, hG.fa335, hG.fl335, ↓asP_h hG.fp311_42, hG.fo336, hG.fa336, hG.fl336, ↓asP_h hG.fp311_43, hG.fo337, hG.fa337, hG.fl337, mI_4]
set_option maxRecDepth 100000 in
set_option maxHeartbeats 4000000 in
theorem r_atEndF (hG : GTs G) {a : Nat} {F : Int32} (hF : ¬ F = -1) : Run E d mX11_atEnd [.ref 311] (0, 0) G (mI J a F) (some (.int F)) G (mI J a F) := by
  refine Ct.run okX11_atEnd TX11_atEnd [] 60 rfl rfl ?_
  simp only [↓tX11_atEnd, ↓opPush, ↓opILoad, ↓opLLoad, ↓opALoad, ↓opIStore, ↓opAStore, ↓opLStore, ↓opIInc, ↓opI1, ↓opII, ↓opID, ↓opLL, ↓opLD, ↓opLI, ↓opI2L, ↓opL2I, ↓opLcmp, ↓opDup, ↓opDupX1, ↓opDup2, ↓opPop, ↓opIf1, ↓opIf2, ↓opGoto, ↓opIRet, ↓opZRet, ↓opLRet, ↓opVRet, ↓opGetI, ↓opGetL, ↓opGetR, ↓opPutI, ↓opPutZ, ↓opPutL, ↓opPutR, ↓opIALoad, ↓opBALoad, ↓opZALoad, ↓opLALoad, ↓opAALoad, ↓opIAStore, ↓opZAStore, ↓opLAStore, ↓opALen, ↓opGetS, ↓opGetC, ↓opStrV, ↓opStrC, ↓opCallV, ↓opCallS, ↓opSw, ↓opCopy, ↓opCallT, ↓opBRet, ↓opObjI, ↓opNew, ↓opNewA, ↓opANew, ↓opAAStore, ↓opMNew, ↓opCallI, ↓wp_s, ↓wp_0, ↓popI_c, ↓popL_c, ↓popR_c, ↓pop1_i, ↓pop1_r, ↓ldI_0, ↓ldI_s, ↓ldL_0, ↓ldL_s, ↓ldR_0, ↓ldR_s, ↓stL_0, ↓stL_s, ↓tk_0, ↓tk_s, ↓Kc_s, ↓Kc_n, isS_0, isS_s, asP_c, gi_0, gi_s, noL_0, noL_s, isW_n, isW_i, isW_r, rcv_c, rcvT_c, swK_0, swK_s, catS, or_false, false_or, not_false_eq_true, not_true_eq_false, true_implies, false_implies, and_true, true_and, ↓reduceIte, Nat.reduceAdd, Nat.reduceLT, Nat.reduceLeDiff, Nat.reduceEqDiff, Nat.reduceSub, forall_const, eq_self, and_self, or_true, true_or, lve_i, lve_r, lve_l, lve_0, List.replicate_succ, List.replicate_zero, mX, mX11_atEnd, hG.fo311, ↓asP_h hG.fp311_1, hG.fo312, hG.fa312, hG.fl312, ↓asP_h hG.fp311_6, hG.fo313, hG.fa313, hG.fl313, ↓asP_h hG.fp311_7, hG.fo314, hG.fa314, hG.fl314, ↓asP_h hG.fp311_8, hG.fo315, hG.fa315, hG.fl315, ↓asP_h hG.fp311_9, hG.fo316, hG.fa316, hG.fl316, ↓asP_h hG.fp311_10, hG.fo317, hG.fa317, hG.fl317, ↓asP_h hG.fp311_11, hG.fo318, hG.fa318, hG.fl318, ↓asP_h hG.fp311_12, hG.fo319, hG.fa319, hG.fl319, ↓asP_h hG.fp311_15, hG.fo320, hG.fa320, hG.fl320, ↓asP_h hG.fp311_16, hG.fo321, hG.fa321, hG.fl321, ↓asP_h hG.fp311_17, hG.fo322, hG.fa322, hG.fl322, ↓asP_h hG.fp311_18, hG.fo323, hG.fa323, hG.fl323, ↓asP_h hG.fp311_19, hG.fo324, hG.fa324, hG.fl324, ↓asP_h hG.fp311_22, hG.fo325, hG.fa325, hG.fl325, ↓asP_h hG.fp311_23, hG.fo326, hG.fa326, hG.fl326, ↓asP_h hG.fp311_24, hG.fo327, hG.fa327, hG.fl327, ↓asP_h hG.fp311_27, hG.fo328, hG.fa328, hG.fl328, ↓asP_h hG.fp311_28, hG.fo329, hG.fa329, hG.fl329, ↓asP_h hG.fp311_31, hG.fo330, hG.fa330, hG.fl330, ↓asP_h hG.fp311_34, hG.fo331, hG.fa331, hG.fl331, ↓asP_h hG.fp311_37, hG.fo332, hG.fa332, hG.fl332, ↓asP_h hG.fp311_38, hG.fo333, hG.fa333, hG.fl333, ↓asP_h hG.fp311_39, hG.fo334, hG.fl334, ↓asP_h hG.fp311_41, hG.fo335, hG.fa335, hG.fl335, ↓asP_h hG.fp311_42, hG.fo336, hG.fa336, hG.fl336, ↓asP_h hG.fp311_43, hG.fo337, hG.fa337, hG.fl337, mI_4, hF]
theorem lw_s (row lt : Nat → Int32) (L n a : Nat) : lwS row lt L (n + 1) a = bnd (clS row lt L a) (fun a1 => if pk row L a1 = 59 then lwS row lt L n (sk row L a1 + 1) else .ok (sk row L a1, [])) := rfl
/- from a clause on -/
set_option maxRecDepth 100000 in
set_option maxHeartbeats 4000000 in
theorem l_laws (hG : GTs G) (hL : L ≤ 240) (hlt : LTok lt) (hb : ∀ k, k < L → ∃ x, x < 256 ∧ row k = nI x) (v : Option Value) : ∀ (n a : Nat) (J : IM) (cs : CLs), 241 ≤ a + n → LSt row L t J 0 (cs.flatMap clF) → CSt J t cs → (cs.flatMap clF).length ≤ a → 2 * cs.length ≤ a → a ≤ L → ∃ J1 a1 F1 J', cfr t J J' ∧ LW row lt L t cs n a J' ∧ Run E (d + 49) mX11_clause [.ref 311] (0, 0) G (mI J a (-1)) none G (mI J1 a1 F1) ∧ Ex E (d + 50) mX11_readLaw (fun x y z => x = some (.int (lfN row lt L n a)) ∧ y = G ∧ z = J') 9 [some (.ref 311), v] [] (0, 0) G (mI J1 a1 F1) := by
  intro n
  induction n with
  | zero => intro a J cs h1 _ _ _ _ h2; omega
  | succ n ih =>
    intro a J cs hn hst hcs hla hca ha
    obtain ⟨J1, a1, F1, fr, co, run⟩ := r_clause (E := E) (d := d) (lt := lt) hG hL hlt hb hst hcs hla hca ha
    cases hc : clS row lt L a with
    | error p =>
      rw [hc] at co
      obtain ⟨rfl, hp⟩ := co
      have hF : ¬ nI p = -1 := nI_m1 (by omega)
      have ef : lfN row lt L (n + 1) a = nI p := by
        unfold lfN
        rw [lw_s, hc]
        rfl
      refine ⟨J1, a1, nI p, mI J1 a1 (nI p), mI_cfr fr _ _, fun z => absurd (ef.symm.trans z) hF, run, ?_⟩
      rw [ef]
      refine Ex.run TX11_readLaw [] 60 ?_
      simp only [↓tX11_readLaw, ↓opPush, ↓opILoad, ↓opLLoad, ↓opALoad, ↓opIStore, ↓opAStore, ↓opLStore, ↓opIInc, ↓opI1, ↓opII, ↓opID, ↓opLL, ↓opLD, ↓opLI, ↓opI2L, ↓opL2I, ↓opLcmp, ↓opDup, ↓opDupX1, ↓opDup2, ↓opPop, ↓opIf1, ↓opIf2, ↓opGoto, ↓opIRet, ↓opZRet, ↓opLRet, ↓opVRet, ↓opGetI, ↓opGetL, ↓opGetR, ↓opPutI, ↓opPutZ, ↓opPutL, ↓opPutR, ↓opIALoad, ↓opBALoad, ↓opZALoad, ↓opLALoad, ↓opAALoad, ↓opIAStore, ↓opZAStore, ↓opLAStore, ↓opALen, ↓opGetS, ↓opGetC, ↓opStrV, ↓opStrC, ↓opCallV, ↓opCallS, ↓opSw, ↓opCopy, ↓opCallT, ↓opBRet, ↓opObjI, ↓opNew, ↓opNewA, ↓opANew, ↓opAAStore, ↓opMNew, ↓opCallI, ↓wp_s, ↓wp_0, ↓popI_c, ↓popL_c, ↓popR_c, ↓pop1_i, ↓pop1_r, ↓ldI_0, ↓ldI_s, ↓ldL_0, ↓ldL_s, ↓ldR_0, ↓ldR_s, ↓stL_0, ↓stL_s, ↓tk_0, ↓tk_s, ↓Kc_s, ↓Kc_n, isS_0, isS_s, asP_c, gi_0, gi_s, noL_0, noL_s, isW_n, isW_i, isW_r, rcv_c, rcvT_c, swK_0, swK_s, catS, or_false, false_or, not_false_eq_true, not_true_eq_false, true_implies, false_implies, and_true, true_and, ↓reduceIte, Nat.reduceAdd, Nat.reduceLT, Nat.reduceLeDiff, Nat.reduceEqDiff, Nat.reduceSub, forall_const, eq_self, and_self, or_true, true_or, hG.fo311, ↓asP_h hG.fp311_1, hG.fo312, hG.fa312, hG.fl312, ↓asP_h hG.fp311_6, hG.fo313, hG.fa313, hG.fl313, ↓asP_h hG.fp311_7, hG.fo314, hG.fa314, hG.fl314, ↓asP_h hG.fp311_8, hG.fo315, hG.fa315, hG.fl315, ↓asP_h hG.fp311_9, hG.fo316, hG.fa316, hG.fl316, ↓asP_h hG.fp311_10, hG.fo317, hG.fa317, hG.fl317, ↓asP_h hG.fp311_11, hG.fo318, hG.fa318, hG.fl318, ↓asP_h hG.fp311_12, hG.fo319, hG.fa319, hG.fl319, ↓asP_h hG.fp311_15, hG.fo320, hG.fa320, hG.fl320, ↓asP_h hG.fp311_16, hG.fo321, hG.fa321, hG.fl321, ↓asP_h hG.fp311_17, hG.fo322, hG.fa322, hG.fl322, ↓asP_h hG.fp311_18, hG.fo323, hG.fa323, hG.fl323, ↓asP_h hG.fp311_19, hG.fo324, hG.fa324, hG.fl324, ↓asP_h hG.fp311_22, hG.fo325, hG.fa325, hG.fl325, ↓asP_h hG.fp311_23, hG.fo326, hG.fa326, hG.fl326, ↓asP_h hG.fp311_24, hG.fo327, hG.fa327, hG.fl327, ↓asP_h hG.fp311_27, hG.fo328, hG.fa328, hG.fl328, ↓asP_h hG.fp311_28, hG.fo329, hG.fa329, hG.fl329, ↓asP_h hG.fp311_31, hG.fo330, hG.fa330, hG.fl330, ↓asP_h hG.fp311_34, hG.fo331, hG.fa331, hG.fl331, ↓asP_h hG.fp311_37, hG.fo332, hG.fa332, hG.fl332, ↓asP_h hG.fp311_38, hG.fo333, hG.fa333, hG.fl333, ↓asP_h hG.fp311_39, hG.fo334, hG.fl334, ↓asP_h hG.fp311_41, hG.fo335, hG.fa335, hG.fl335, ↓asP_h hG.fp311_42, hG.fo336, hG.fa336, hG.fl336, ↓asP_h hG.fp311_43, hG.fo337, hG.fa337, hG.fl337, mI_4, hF]
      refine ⟨_, _, _, _, rfl, r_atEndF hG hF, ?_⟩
      simp only [↓tX11_readLaw, ↓opPush, ↓opILoad, ↓opLLoad, ↓opALoad, ↓opIStore, ↓opAStore, ↓opLStore, ↓opIInc, ↓opI1, ↓opII, ↓opID, ↓opLL, ↓opLD, ↓opLI, ↓opI2L, ↓opL2I, ↓opLcmp, ↓opDup, ↓opDupX1, ↓opDup2, ↓opPop, ↓opIf1, ↓opIf2, ↓opGoto, ↓opIRet, ↓opZRet, ↓opLRet, ↓opVRet, ↓opGetI, ↓opGetL, ↓opGetR, ↓opPutI, ↓opPutZ, ↓opPutL, ↓opPutR, ↓opIALoad, ↓opBALoad, ↓opZALoad, ↓opLALoad, ↓opAALoad, ↓opIAStore, ↓opZAStore, ↓opLAStore, ↓opALen, ↓opGetS, ↓opGetC, ↓opStrV, ↓opStrC, ↓opCallV, ↓opCallS, ↓opSw, ↓opCopy, ↓opCallT, ↓opBRet, ↓opObjI, ↓opNew, ↓opNewA, ↓opANew, ↓opAAStore, ↓opMNew, ↓opCallI, ↓wp_s, ↓wp_0, ↓popI_c, ↓popL_c, ↓popR_c, ↓pop1_i, ↓pop1_r, ↓ldI_0, ↓ldI_s, ↓ldL_0, ↓ldL_s, ↓ldR_0, ↓ldR_s, ↓stL_0, ↓stL_s, ↓tk_0, ↓tk_s, ↓Kc_s, ↓Kc_n, isS_0, isS_s, asP_c, gi_0, gi_s, noL_0, noL_s, isW_n, isW_i, isW_r, rcv_c, rcvT_c, swK_0, swK_s, catS, or_false, false_or, not_false_eq_true, not_true_eq_false, true_implies, false_implies, and_true, true_and, ↓reduceIte, Nat.reduceAdd, Nat.reduceLT, Nat.reduceLeDiff, Nat.reduceEqDiff, Nat.reduceSub, forall_const, eq_self, and_self, or_true, true_or]
    | ok x =>
      rw [hc] at co
      obtain ⟨rfl, g2, g3, c, e1, e2, e3, e4, e5, e6, e7⟩ := co
      have hs := sk_le row g3
      have lk := r_lookL (E := E) (d := d + 48) hG hL e3 g3
      have ff : lwS row lt L (n + 1) a = bnd (.ok x) (fun a1 => if pk row L a1 = 59 then lwS row lt L n (sk row L a1 + 1) else .ok (sk row L a1, [])) := by rw [lw_s, hc]
      by_cases c59 : pk row L a1 = 59
      · have hsL := pkin c59 (by decide)
        obtain ⟨J2, a2, F2, J', fr2, lw2, run2, ex2⟩ := ih (sk row L a1 + 1) J1 (cs ++ [c]) (by omega) e3 e4 (by omega) (by rw [List.length_append]; show 2 * (cs.length + 1) ≤ _; omega) (by omega)
        have e59 : (fun a1 => if pk row L a1 = 59 then lwS row lt L n (sk row L a1 + 1) else .ok (sk row L a1, [])) x.1 = lwS row lt L n (sk row L a1 + 1) := by
          show (if pk row L x.1 = 59 then lwS row lt L n (sk row L x.1 + 1) else .ok (sk row L x.1, [])) = _
          rw [← g2, if_pos c59]
        have ef : lfN row lt L (n + 1) a = lfN row lt L n (sk row L a1 + 1) := by
          unfold lfN
          rw [ff]
          cases hq : lwS row lt L n (sk row L a1 + 1) with
          | error p => rw [bnd_oe (e59.trans hq)]
          | ok y => rw [bnd_oo (e59.trans hq)]
        refine ⟨J1, a1, -1, J', fr.trans fr2, fun z => ?_, run, ?_⟩
        · obtain ⟨cs', y, k1, k2, k3, k4, k5, k6⟩ := lw2 (ef ▸ z)
          refine ⟨c :: cs', (y.1, x.2 ++ y.2), ?_, ?_, ?_, ?_, ?_, ?_⟩
          · rw [ff]
            exact bnd_oo (e59.trans k1)
          · show x.2 ++ y.2 = _
            rw [List.flatMap_cons, ← k2, ← e1]
          · intro q hq
            rcases List.mem_cons.mp hq with rfl | hq
            · exact e2
            · exact k3 q hq
          · rw [show cs ++ c :: cs' = cs ++ [c] ++ cs' by simp]
            exact k4
          · rw [show cs ++ c :: cs' = cs ++ [c] ++ cs' by simp]
            exact k5
          · show (x.2 ++ y.2).length + a ≤ 240
            rw [List.length_append]
            omega
        · rw [ef]
          refine Ex.run TX11_readLaw [9] 60 ?_
          simp only [↓tX11_readLaw, ↓opPush, ↓opILoad, ↓opLLoad, ↓opALoad, ↓opIStore, ↓opAStore, ↓opLStore, ↓opIInc, ↓opI1, ↓opII, ↓opID, ↓opLL, ↓opLD, ↓opLI, ↓opI2L, ↓opL2I, ↓opLcmp, ↓opDup, ↓opDupX1, ↓opDup2, ↓opPop, ↓opIf1, ↓opIf2, ↓opGoto, ↓opIRet, ↓opZRet, ↓opLRet, ↓opVRet, ↓opGetI, ↓opGetL, ↓opGetR, ↓opPutI, ↓opPutZ, ↓opPutL, ↓opPutR, ↓opIALoad, ↓opBALoad, ↓opZALoad, ↓opLALoad, ↓opAALoad, ↓opIAStore, ↓opZAStore, ↓opLAStore, ↓opALen, ↓opGetS, ↓opGetC, ↓opStrV, ↓opStrC, ↓opCallV, ↓opCallS, ↓opSw, ↓opCopy, ↓opCallT, ↓opBRet, ↓opObjI, ↓opNew, ↓opNewA, ↓opANew, ↓opAAStore, ↓opMNew, ↓opCallI, ↓wp_s, ↓wp_0, ↓popI_c, ↓popL_c, ↓popR_c, ↓pop1_i, ↓pop1_r, ↓ldI_0, ↓ldI_s, ↓ldL_0, ↓ldL_s, ↓ldR_0, ↓ldR_s, ↓stL_0, ↓stL_s, ↓tk_0, ↓tk_s, ↓Kc_s, ↓Kc_n, isS_0, isS_s, asP_c, gi_0, gi_s, noL_0, noL_s, isW_n, isW_i, isW_r, rcv_c, rcvT_c, swK_0, swK_s, catS, or_false, false_or, not_false_eq_true, not_true_eq_false, true_implies, false_implies, and_true, true_and, ↓reduceIte, Nat.reduceAdd, Nat.reduceLT, Nat.reduceLeDiff, Nat.reduceEqDiff, Nat.reduceSub, forall_const, eq_self, and_self, or_true, true_or, hG.fo311, ↓asP_h hG.fp311_1, hG.fo312, hG.fa312, hG.fl312, ↓asP_h hG.fp311_6, hG.fo313, hG.fa313, hG.fl313, ↓asP_h hG.fp311_7, hG.fo314, hG.fa314, hG.fl314, ↓asP_h hG.fp311_8, hG.fo315, hG.fa315, hG.fl315, ↓asP_h hG.fp311_9, hG.fo316, hG.fa316, hG.fl316, ↓asP_h hG.fp311_10, hG.fo317, hG.fa317, hG.fl317, ↓asP_h hG.fp311_11, hG.fo318, hG.fa318, hG.fl318, ↓asP_h hG.fp311_12, hG.fo319, hG.fa319, hG.fl319, ↓asP_h hG.fp311_15, hG.fo320, hG.fa320, hG.fl320, ↓asP_h hG.fp311_16, hG.fo321, hG.fa321, hG.fl321, ↓asP_h hG.fp311_17, hG.fo322, hG.fa322, hG.fl322, ↓asP_h hG.fp311_18, hG.fo323, hG.fa323, hG.fl323, ↓asP_h hG.fp311_19, hG.fo324, hG.fa324, hG.fl324, ↓asP_h hG.fp311_22, hG.fo325, hG.fa325, hG.fl325, ↓asP_h hG.fp311_23, hG.fo326, hG.fa326, hG.fl326, ↓asP_h hG.fp311_24, hG.fo327, hG.fa327, hG.fl327, ↓asP_h hG.fp311_27, hG.fo328, hG.fa328, hG.fl328, ↓asP_h hG.fp311_28, hG.fo329, hG.fa329, hG.fl329, ↓asP_h hG.fp311_31, hG.fo330, hG.fa330, hG.fl330, ↓asP_h hG.fp311_34, hG.fo331, hG.fa331, hG.fl331, ↓asP_h hG.fp311_37, hG.fo332, hG.fa332, hG.fl332, ↓asP_h hG.fp311_38, hG.fo333, hG.fa333, hG.fl333, ↓asP_h hG.fp311_39, hG.fo334, hG.fl334, ↓asP_h hG.fp311_41, hG.fo335, hG.fa335, hG.fl335, ↓asP_h hG.fp311_42, hG.fo336, hG.fa336, hG.fl336, ↓asP_h hG.fp311_43, hG.fo337, hG.fa337, hG.fl337, mI_4]
          refine ⟨_, _, _, _, rfl, lk, ?_⟩
          simp only [↓tX11_readLaw, ↓opPush, ↓opILoad, ↓opLLoad, ↓opALoad, ↓opIStore, ↓opAStore, ↓opLStore, ↓opIInc, ↓opI1, ↓opII, ↓opID, ↓opLL, ↓opLD, ↓opLI, ↓opI2L, ↓opL2I, ↓opLcmp, ↓opDup, ↓opDupX1, ↓opDup2, ↓opPop, ↓opIf1, ↓opIf2, ↓opGoto, ↓opIRet, ↓opZRet, ↓opLRet, ↓opVRet, ↓opGetI, ↓opGetL, ↓opGetR, ↓opPutI, ↓opPutZ, ↓opPutL, ↓opPutR, ↓opIALoad, ↓opBALoad, ↓opZALoad, ↓opLALoad, ↓opAALoad, ↓opIAStore, ↓opZAStore, ↓opLAStore, ↓opALen, ↓opGetS, ↓opGetC, ↓opStrV, ↓opStrC, ↓opCallV, ↓opCallS, ↓opSw, ↓opCopy, ↓opCallT, ↓opBRet, ↓opObjI, ↓opNew, ↓opNewA, ↓opANew, ↓opAAStore, ↓opMNew, ↓opCallI, ↓wp_s, ↓wp_0, ↓popI_c, ↓popL_c, ↓popR_c, ↓pop1_i, ↓pop1_r, ↓ldI_0, ↓ldI_s, ↓ldL_0, ↓ldL_s, ↓ldR_0, ↓ldR_s, ↓stL_0, ↓stL_s, ↓tk_0, ↓tk_s, ↓Kc_s, ↓Kc_n, isS_0, isS_s, asP_c, gi_0, gi_s, noL_0, noL_s, isW_n, isW_i, isW_r, rcv_c, rcvT_c, swK_0, swK_s, catS, or_false, false_or, not_false_eq_true, not_true_eq_false, true_implies, false_implies, and_true, true_and, ↓reduceIte, Nat.reduceAdd, Nat.reduceLT, Nat.reduceLeDiff, Nat.reduceEqDiff, Nat.reduceSub, forall_const, eq_self, and_self, or_true, true_or, c59, hG.fo311, ↓asP_h hG.fp311_1, hG.fo312, hG.fa312, hG.fl312, ↓asP_h hG.fp311_6, hG.fo313, hG.fa313, hG.fl313, ↓asP_h hG.fp311_7, hG.fo314, hG.fa314, hG.fl314, ↓asP_h hG.fp311_8, hG.fo315, hG.fa315, hG.fl315, ↓asP_h hG.fp311_9, hG.fo316, hG.fa316, hG.fl316, ↓asP_h hG.fp311_10, hG.fo317, hG.fa317, hG.fl317, ↓asP_h hG.fp311_11, hG.fo318, hG.fa318, hG.fl318, ↓asP_h hG.fp311_12, hG.fo319, hG.fa319, hG.fl319, ↓asP_h hG.fp311_15, hG.fo320, hG.fa320, hG.fl320, ↓asP_h hG.fp311_16, hG.fo321, hG.fa321, hG.fl321, ↓asP_h hG.fp311_17, hG.fo322, hG.fa322, hG.fl322, ↓asP_h hG.fp311_18, hG.fo323, hG.fa323, hG.fl323, ↓asP_h hG.fp311_19, hG.fo324, hG.fa324, hG.fl324, ↓asP_h hG.fp311_22, hG.fo325, hG.fa325, hG.fl325, ↓asP_h hG.fp311_23, hG.fo326, hG.fa326, hG.fl326, ↓asP_h hG.fp311_24, hG.fo327, hG.fa327, hG.fl327, ↓asP_h hG.fp311_27, hG.fo328, hG.fa328, hG.fl328, ↓asP_h hG.fp311_28, hG.fo329, hG.fa329, hG.fl329, ↓asP_h hG.fp311_31, hG.fo330, hG.fa330, hG.fl330, ↓asP_h hG.fp311_34, hG.fo331, hG.fa331, hG.fl331, ↓asP_h hG.fp311_37, hG.fo332, hG.fa332, hG.fl332, ↓asP_h hG.fp311_38, hG.fo333, hG.fa333, hG.fl333, ↓asP_h hG.fp311_39, hG.fo334, hG.fl334, ↓asP_h hG.fp311_41, hG.fo335, hG.fa335, hG.fl335, ↓asP_h hG.fp311_42, hG.fo336, hG.fa336, hG.fl336, ↓asP_h hG.fp311_43, hG.fo337, hG.fa337, hG.fl337, mI_3, nI_1]
          rw [mI_u3]
          refine ⟨_, _, _, _, rfl, run2, ?_⟩
          simp only [↓tX11_readLaw, ↓opPush, ↓opILoad, ↓opLLoad, ↓opALoad, ↓opIStore, ↓opAStore, ↓opLStore, ↓opIInc, ↓opI1, ↓opII, ↓opID, ↓opLL, ↓opLD, ↓opLI, ↓opI2L, ↓opL2I, ↓opLcmp, ↓opDup, ↓opDupX1, ↓opDup2, ↓opPop, ↓opIf1, ↓opIf2, ↓opGoto, ↓opIRet, ↓opZRet, ↓opLRet, ↓opVRet, ↓opGetI, ↓opGetL, ↓opGetR, ↓opPutI, ↓opPutZ, ↓opPutL, ↓opPutR, ↓opIALoad, ↓opBALoad, ↓opZALoad, ↓opLALoad, ↓opAALoad, ↓opIAStore, ↓opZAStore, ↓opLAStore, ↓opALen, ↓opGetS, ↓opGetC, ↓opStrV, ↓opStrC, ↓opCallV, ↓opCallS, ↓opSw, ↓opCopy, ↓opCallT, ↓opBRet, ↓opObjI, ↓opNew, ↓opNewA, ↓opANew, ↓opAAStore, ↓opMNew, ↓opCallI, ↓wp_s, ↓wp_0, ↓popI_c, ↓popL_c, ↓popR_c, ↓pop1_i, ↓pop1_r, ↓ldI_0, ↓ldI_s, ↓ldL_0, ↓ldL_s, ↓ldR_0, ↓ldR_s, ↓stL_0, ↓stL_s, ↓tk_0, ↓tk_s, ↓Kc_s, ↓Kc_n, isS_0, isS_s, asP_c, gi_0, gi_s, noL_0, noL_s, isW_n, isW_i, isW_r, rcv_c, rcvT_c, swK_0, swK_s, catS, or_false, false_or, not_false_eq_true, not_true_eq_false, true_implies, false_implies, and_true, true_and, ↓reduceIte, Nat.reduceAdd, Nat.reduceLT, Nat.reduceLeDiff, Nat.reduceEqDiff, Nat.reduceSub, forall_const, eq_self, and_self, or_true, true_or]
          exact ex2
      · have e59 : (fun a1 => if pk row L a1 = 59 then lwS row lt L n (sk row L a1 + 1) else .ok (sk row L a1, [])) x.1 = .ok (sk row L a1, []) := by
          show (if pk row L x.1 = 59 then lwS row lt L n (sk row L x.1 + 1) else .ok (sk row L x.1, [])) = _
          rw [← g2, if_neg c59]
        have fo : lwS row lt L (n + 1) a = .ok (sk row L a1, x.2) := by
          rw [ff, bnd_oo e59, List.append_nil]
        have ae := r_atEnd (E := E) (d := d + 47) hG hL e3 hs.2
        rw [pk_sk g3, sk_sk g3] at ae
        have ef : lfN row lt L (n + 1) a = if pk row L a1 = -1 then -1 else nI (sk row L a1) := by
          unfold lfN
          rw [fo]
          show (if pk row L (sk row L a1) = -1 then -1 else nI (sk row L (sk row L a1))) = _
          rw [pk_sk g3, sk_sk g3]
        refine ⟨J1, a1, -1, mI J1 (sk row L a1) (if pk row L a1 = -1 then -1 else nI (sk row L a1)), mI_cfr fr _ _, fun z => ?_, run, ?_⟩
        · refine ⟨[c], _, fo, ?_, ?_, ?_, ?_, ?_⟩
          · show x.2 = _
            rw [e1]
            simp
          · intro q hq
            rw [List.mem_singleton.mp hq]
            exact e2
          · exact mI_LSt e3 _ _
          · exact mI_CSt e4 _ _
          · show x.2.length + a ≤ 240
            omega
        · rw [ef]
          refine Ex.run TX11_readLaw [] 60 ?_
          simp only [↓tX11_readLaw, ↓opPush, ↓opILoad, ↓opLLoad, ↓opALoad, ↓opIStore, ↓opAStore, ↓opLStore, ↓opIInc, ↓opI1, ↓opII, ↓opID, ↓opLL, ↓opLD, ↓opLI, ↓opI2L, ↓opL2I, ↓opLcmp, ↓opDup, ↓opDupX1, ↓opDup2, ↓opPop, ↓opIf1, ↓opIf2, ↓opGoto, ↓opIRet, ↓opZRet, ↓opLRet, ↓opVRet, ↓opGetI, ↓opGetL, ↓opGetR, ↓opPutI, ↓opPutZ, ↓opPutL, ↓opPutR, ↓opIALoad, ↓opBALoad, ↓opZALoad, ↓opLALoad, ↓opAALoad, ↓opIAStore, ↓opZAStore, ↓opLAStore, ↓opALen, ↓opGetS, ↓opGetC, ↓opStrV, ↓opStrC, ↓opCallV, ↓opCallS, ↓opSw, ↓opCopy, ↓opCallT, ↓opBRet, ↓opObjI, ↓opNew, ↓opNewA, ↓opANew, ↓opAAStore, ↓opMNew, ↓opCallI, ↓wp_s, ↓wp_0, ↓popI_c, ↓popL_c, ↓popR_c, ↓pop1_i, ↓pop1_r, ↓ldI_0, ↓ldI_s, ↓ldL_0, ↓ldL_s, ↓ldR_0, ↓ldR_s, ↓stL_0, ↓stL_s, ↓tk_0, ↓tk_s, ↓Kc_s, ↓Kc_n, isS_0, isS_s, asP_c, gi_0, gi_s, noL_0, noL_s, isW_n, isW_i, isW_r, rcv_c, rcvT_c, swK_0, swK_s, catS, or_false, false_or, not_false_eq_true, not_true_eq_false, true_implies, false_implies, and_true, true_and, ↓reduceIte, Nat.reduceAdd, Nat.reduceLT, Nat.reduceLeDiff, Nat.reduceEqDiff, Nat.reduceSub, forall_const, eq_self, and_self, or_true, true_or, hG.fo311, ↓asP_h hG.fp311_1, hG.fo312, hG.fa312, hG.fl312, ↓asP_h hG.fp311_6, hG.fo313, hG.fa313, hG.fl313, ↓asP_h hG.fp311_7, hG.fo314, hG.fa314, hG.fl314, ↓asP_h hG.fp311_8, hG.fo315, hG.fa315, hG.fl315, ↓asP_h hG.fp311_9, hG.fo316, hG.fa316, hG.fl316, ↓asP_h hG.fp311_10, hG.fo317, hG.fa317, hG.fl317, ↓asP_h hG.fp311_11, hG.fo318, hG.fa318, hG.fl318, ↓asP_h hG.fp311_12, hG.fo319, hG.fa319, hG.fl319, ↓asP_h hG.fp311_15, hG.fo320, hG.fa320, hG.fl320, ↓asP_h hG.fp311_16, hG.fo321, hG.fa321, hG.fl321, ↓asP_h hG.fp311_17, hG.fo322, hG.fa322, hG.fl322, ↓asP_h hG.fp311_18, hG.fo323, hG.fa323, hG.fl323, ↓asP_h hG.fp311_19, hG.fo324, hG.fa324, hG.fl324, ↓asP_h hG.fp311_22, hG.fo325, hG.fa325, hG.fl325, ↓asP_h hG.fp311_23, hG.fo326, hG.fa326, hG.fl326, ↓asP_h hG.fp311_24, hG.fo327, hG.fa327, hG.fl327, ↓asP_h hG.fp311_27, hG.fo328, hG.fa328, hG.fl328, ↓asP_h hG.fp311_28, hG.fo329, hG.fa329, hG.fl329, ↓asP_h hG.fp311_31, hG.fo330, hG.fa330, hG.fl330, ↓asP_h hG.fp311_34, hG.fo331, hG.fa331, hG.fl331, ↓asP_h hG.fp311_37, hG.fo332, hG.fa332, hG.fl332, ↓asP_h hG.fp311_38, hG.fo333, hG.fa333, hG.fl333, ↓asP_h hG.fp311_39, hG.fo334, hG.fl334, ↓asP_h hG.fp311_41, hG.fo335, hG.fa335, hG.fl335, ↓asP_h hG.fp311_42, hG.fo336, hG.fa336, hG.fl336, ↓asP_h hG.fp311_43, hG.fo337, hG.fa337, hG.fl337, mI_4]
          refine ⟨_, _, _, _, rfl, lk, ?_⟩
          simp only [↓tX11_readLaw, ↓opPush, ↓opILoad, ↓opLLoad, ↓opALoad, ↓opIStore, ↓opAStore, ↓opLStore, ↓opIInc, ↓opI1, ↓opII, ↓opID, ↓opLL, ↓opLD, ↓opLI, ↓opI2L, ↓opL2I, ↓opLcmp, ↓opDup, ↓opDupX1, ↓opDup2, ↓opPop, ↓opIf1, ↓opIf2, ↓opGoto, ↓opIRet, ↓opZRet, ↓opLRet, ↓opVRet, ↓opGetI, ↓opGetL, ↓opGetR, ↓opPutI, ↓opPutZ, ↓opPutL, ↓opPutR, ↓opIALoad, ↓opBALoad, ↓opZALoad, ↓opLALoad, ↓opAALoad, ↓opIAStore, ↓opZAStore, ↓opLAStore, ↓opALen, ↓opGetS, ↓opGetC, ↓opStrV, ↓opStrC, ↓opCallV, ↓opCallS, ↓opSw, ↓opCopy, ↓opCallT, ↓opBRet, ↓opObjI, ↓opNew, ↓opNewA, ↓opANew, ↓opAAStore, ↓opMNew, ↓opCallI, ↓wp_s, ↓wp_0, ↓popI_c, ↓popL_c, ↓popR_c, ↓pop1_i, ↓pop1_r, ↓ldI_0, ↓ldI_s, ↓ldL_0, ↓ldL_s, ↓ldR_0, ↓ldR_s, ↓stL_0, ↓stL_s, ↓tk_0, ↓tk_s, ↓Kc_s, ↓Kc_n, isS_0, isS_s, asP_c, gi_0, gi_s, noL_0, noL_s, isW_n, isW_i, isW_r, rcv_c, rcvT_c, swK_0, swK_s, catS, or_false, false_or, not_false_eq_true, not_true_eq_false, true_implies, false_implies, and_true, true_and, ↓reduceIte, Nat.reduceAdd, Nat.reduceLT, Nat.reduceLeDiff, Nat.reduceEqDiff, Nat.reduceSub, forall_const, eq_self, and_self, or_true, true_or, c59, hG.fo311, ↓asP_h hG.fp311_1, hG.fo312, hG.fa312, hG.fl312, ↓asP_h hG.fp311_6, hG.fo313, hG.fa313, hG.fl313, ↓asP_h hG.fp311_7, hG.fo314, hG.fa314, hG.fl314, ↓asP_h hG.fp311_8, hG.fo315, hG.fa315, hG.fl315, ↓asP_h hG.fp311_9, hG.fo316, hG.fa316, hG.fl316, ↓asP_h hG.fp311_10, hG.fo317, hG.fa317, hG.fl317, ↓asP_h hG.fp311_11, hG.fo318, hG.fa318, hG.fl318, ↓asP_h hG.fp311_12, hG.fo319, hG.fa319, hG.fl319, ↓asP_h hG.fp311_15, hG.fo320, hG.fa320, hG.fl320, ↓asP_h hG.fp311_16, hG.fo321, hG.fa321, hG.fl321, ↓asP_h hG.fp311_17, hG.fo322, hG.fa322, hG.fl322, ↓asP_h hG.fp311_18, hG.fo323, hG.fa323, hG.fl323, ↓asP_h hG.fp311_19, hG.fo324, hG.fa324, hG.fl324, ↓asP_h hG.fp311_22, hG.fo325, hG.fa325, hG.fl325, ↓asP_h hG.fp311_23, hG.fo326, hG.fa326, hG.fl326, ↓asP_h hG.fp311_24, hG.fo327, hG.fa327, hG.fl327, ↓asP_h hG.fp311_27, hG.fo328, hG.fa328, hG.fl328, ↓asP_h hG.fp311_28, hG.fo329, hG.fa329, hG.fl329, ↓asP_h hG.fp311_31, hG.fo330, hG.fa330, hG.fl330, ↓asP_h hG.fp311_34, hG.fo331, hG.fa331, hG.fl331, ↓asP_h hG.fp311_37, hG.fo332, hG.fa332, hG.fl332, ↓asP_h hG.fp311_38, hG.fo333, hG.fa333, hG.fl333, ↓asP_h hG.fp311_39, hG.fo334, hG.fl334, ↓asP_h hG.fp311_41, hG.fo335, hG.fa335, hG.fl335, ↓asP_h hG.fp311_42, hG.fo336, hG.fa336, hG.fl336, ↓asP_h hG.fp311_43, hG.fo337, hG.fa337, hG.fl337]
          refine ⟨_, _, _, _, rfl, ae, ?_⟩
          simp only [↓tX11_readLaw, ↓opPush, ↓opILoad, ↓opLLoad, ↓opALoad, ↓opIStore, ↓opAStore, ↓opLStore, ↓opIInc, ↓opI1, ↓opII, ↓opID, ↓opLL, ↓opLD, ↓opLI, ↓opI2L, ↓opL2I, ↓opLcmp, ↓opDup, ↓opDupX1, ↓opDup2, ↓opPop, ↓opIf1, ↓opIf2, ↓opGoto, ↓opIRet, ↓opZRet, ↓opLRet, ↓opVRet, ↓opGetI, ↓opGetL, ↓opGetR, ↓opPutI, ↓opPutZ, ↓opPutL, ↓opPutR, ↓opIALoad, ↓opBALoad, ↓opZALoad, ↓opLALoad, ↓opAALoad, ↓opIAStore, ↓opZAStore, ↓opLAStore, ↓opALen, ↓opGetS, ↓opGetC, ↓opStrV, ↓opStrC, ↓opCallV, ↓opCallS, ↓opSw, ↓opCopy, ↓opCallT, ↓opBRet, ↓opObjI, ↓opNew, ↓opNewA, ↓opANew, ↓opAAStore, ↓opMNew, ↓opCallI, ↓wp_s, ↓wp_0, ↓popI_c, ↓popL_c, ↓popR_c, ↓pop1_i, ↓pop1_r, ↓ldI_0, ↓ldI_s, ↓ldL_0, ↓ldL_s, ↓ldR_0, ↓ldR_s, ↓stL_0, ↓stL_s, ↓tk_0, ↓tk_s, ↓Kc_s, ↓Kc_n, isS_0, isS_s, asP_c, gi_0, gi_s, noL_0, noL_s, isW_n, isW_i, isW_r, rcv_c, rcvT_c, swK_0, swK_s, catS, or_false, false_or, not_false_eq_true, not_true_eq_false, true_implies, false_implies, and_true, true_and, ↓reduceIte, Nat.reduceAdd, Nat.reduceLT, Nat.reduceLeDiff, Nat.reduceEqDiff, Nat.reduceSub, forall_const, eq_self, and_self, or_true, true_or]
/-- set upon text t -/
def opR (J : IM) (t : Nat) : IM := up2 (up2 (up2 (up2 J 311 14 (nI t)) 311 5 0) 315 t 0) 316 t 0
set_option maxRecDepth 100000 in
set_option maxHeartbeats 4000000 in
theorem r_open (hG : GTs G) (ht : t < 5) : Run E d mX11_open [.ref 311, .int (nI t)] (0, 0) G J none G (mI (opR J t) 0 (-1)) := by
  refine Ct.run okX11_open TX11_open [] 60 rfl rfl ?_
  simp only [↓tX11_open, ↓opPush, ↓opILoad, ↓opLLoad, ↓opALoad, ↓opIStore, ↓opAStore, ↓opLStore, ↓opIInc, ↓opI1, ↓opII, ↓opID, ↓opLL, ↓opLD, ↓opLI, ↓opI2L, ↓opL2I, ↓opLcmp, ↓opDup, ↓opDupX1, ↓opDup2, ↓opPop, ↓opIf1, ↓opIf2, ↓opGoto, ↓opIRet, ↓opZRet, ↓opLRet, ↓opVRet, ↓opGetI, ↓opGetL, ↓opGetR, ↓opPutI, ↓opPutZ, ↓opPutL, ↓opPutR, ↓opIALoad, ↓opBALoad, ↓opZALoad, ↓opLALoad, ↓opAALoad, ↓opIAStore, ↓opZAStore, ↓opLAStore, ↓opALen, ↓opGetS, ↓opGetC, ↓opStrV, ↓opStrC, ↓opCallV, ↓opCallS, ↓opSw, ↓opCopy, ↓opCallT, ↓opBRet, ↓opObjI, ↓opNew, ↓opNewA, ↓opANew, ↓opAAStore, ↓opMNew, ↓opCallI, ↓wp_s, ↓wp_0, ↓popI_c, ↓popL_c, ↓popR_c, ↓pop1_i, ↓pop1_r, ↓ldI_0, ↓ldI_s, ↓ldL_0, ↓ldL_s, ↓ldR_0, ↓ldR_s, ↓stL_0, ↓stL_s, ↓tk_0, ↓tk_s, ↓Kc_s, ↓Kc_n, isS_0, isS_s, asP_c, gi_0, gi_s, noL_0, noL_s, isW_n, isW_i, isW_r, rcv_c, rcvT_c, swK_0, swK_s, catS, or_false, false_or, not_false_eq_true, not_true_eq_false, true_implies, false_implies, and_true, true_and, ↓reduceIte, Nat.reduceAdd, Nat.reduceLT, Nat.reduceLeDiff, Nat.reduceEqDiff, Nat.reduceSub, forall_const, eq_self, and_self, or_true, true_or, lve_i, lve_r, lve_l, lve_0, List.replicate_succ, List.replicate_zero, mX, mX11_open, hG.fo311, ↓asP_h hG.fp311_8, hG.fo315, hG.fa315, hG.fl315, ↓asP_h hG.fp311_9, hG.fo316, hG.fa316, hG.fl316, vp_in_nI ht (by decide), nI_clamp (show t < 2 ^ 31 by omega)]
  unfold opR mI
  funext b k
  unfold up2
  by_cases e1 : b = 311
  · subst e1
    by_cases k3 : k = 3
    · subst k3; simp [nI_0]
    · by_cases k4 : k = 4
      · subst k4; simp
      · by_cases k5 : k = 5
        · subst k5; simp
        · by_cases k14 : k = 14
          · subst k14; simp
          · simp [k3, k4, k5, k14]
  · by_cases e2 : b = 315
    · subst e2; simp
    · by_cases e3 : b = 316
      · subst e3; simp
      · simp [e1, e2, e3]
theorem opR_cfr (J : IM) (t : Nat) : cfr t J (opR J t) := fun b k q => by
  unfold opR
  rw [up2_o (by omega), up2_o (by omega), up2_o (by omega), up2_o (by omega)]
set_option maxRecDepth 100000 in
set_option maxHeartbeats 4000000 in
theorem r_readLaw (hG : GTs G) (hL : L ≤ 240) (hlt : LTok lt) (hb : ∀ k, k < L → ∃ x, x < 256 ∧ row k = nI x) (h2 : J 311 2 = nI L) (h312 : J 312 = row) (ht : t ≤ 4) : ∃ J', cfr t J J' ∧ LW row lt L t [] 241 0 J' ∧ Run E (d + 50) mX11_readLaw [.ref 311, .int (nI t)] (0, 0) G J (some (.int (lfS row lt L))) G J' := by
  have st : LSt row L t (opR J t) 0 (([] : CLs).flatMap clF) := by
    unfold opR
    refine ⟨?_, ?_, ht, ?_, ?_, ?_, fun i hi => by cases hi⟩
    · rw [up2_ne (by decide), up2_ne (by decide), up2_nk (by decide), up2_nk (by decide)]; exact h2
    · rw [up2_ne (by decide), up2_ne (by decide), up2_ne (by decide), up2_ne (by decide)]; exact h312
    · rw [up2_ne (by decide), up2_ne (by decide), up2_nk (by decide), up2_sa]
    · rw [up2_ne (by decide), up2_ne (by decide), up2_sa]; rfl
    · rw [up2_ne (by decide), up2_sa]; rfl
  have ct : CSt (opR J t) t [] := ⟨by unfold opR; rw [up2_sa]; rfl, fun i hi => by cases hi⟩
  obtain ⟨J1, a1, F1, J', fr, lw, run, ex⟩ := l_laws (E := E) (d := d) (lt := lt) hG hL hlt hb (some (.int (nI t))) 241 0 (opR J t) [] (by omega) st ct (by simp) (by simp) (by omega)
  refine ⟨J', (opR_cfr J t).trans fr, lw, ?_⟩
  refine Ct.run okX11_readLaw TX11_readLaw [9] 60 rfl rfl ?_
  simp only [↓tX11_readLaw, ↓opPush, ↓opILoad, ↓opLLoad, ↓opALoad, ↓opIStore, ↓opAStore, ↓opLStore, ↓opIInc, ↓opI1, ↓opII, ↓opID, ↓opLL, ↓opLD, ↓opLI, ↓opI2L, ↓opL2I, ↓opLcmp, ↓opDup, ↓opDupX1, ↓opDup2, ↓opPop, ↓opIf1, ↓opIf2, ↓opGoto, ↓opIRet, ↓opZRet, ↓opLRet, ↓opVRet, ↓opGetI, ↓opGetL, ↓opGetR, ↓opPutI, ↓opPutZ, ↓opPutL, ↓opPutR, ↓opIALoad, ↓opBALoad, ↓opZALoad, ↓opLALoad, ↓opAALoad, ↓opIAStore, ↓opZAStore, ↓opLAStore, ↓opALen, ↓opGetS, ↓opGetC, ↓opStrV, ↓opStrC, ↓opCallV, ↓opCallS, ↓opSw, ↓opCopy, ↓opCallT, ↓opBRet, ↓opObjI, ↓opNew, ↓opNewA, ↓opANew, ↓opAAStore, ↓opMNew, ↓opCallI, ↓wp_s, ↓wp_0, ↓popI_c, ↓popL_c, ↓popR_c, ↓pop1_i, ↓pop1_r, ↓ldI_0, ↓ldI_s, ↓ldL_0, ↓ldL_s, ↓ldR_0, ↓ldR_s, ↓stL_0, ↓stL_s, ↓tk_0, ↓tk_s, ↓Kc_s, ↓Kc_n, isS_0, isS_s, asP_c, gi_0, gi_s, noL_0, noL_s, isW_n, isW_i, isW_r, rcv_c, rcvT_c, swK_0, swK_s, catS, or_false, false_or, not_false_eq_true, not_true_eq_false, true_implies, false_implies, and_true, true_and, ↓reduceIte, Nat.reduceAdd, Nat.reduceLT, Nat.reduceLeDiff, Nat.reduceEqDiff, Nat.reduceSub, forall_const, eq_self, and_self, or_true, true_or, lve_i, lve_r, lve_l, lve_0, List.replicate_succ, List.replicate_zero, mX, mX11_readLaw, hG.fo311, ↓asP_h hG.fp311_1, hG.fo312, hG.fa312, hG.fl312, ↓asP_h hG.fp311_6, hG.fo313, hG.fa313, hG.fl313, ↓asP_h hG.fp311_7, hG.fo314, hG.fa314, hG.fl314, ↓asP_h hG.fp311_8, hG.fo315, hG.fa315, hG.fl315, ↓asP_h hG.fp311_9, hG.fo316, hG.fa316, hG.fl316, ↓asP_h hG.fp311_10, hG.fo317, hG.fa317, hG.fl317, ↓asP_h hG.fp311_11, hG.fo318, hG.fa318, hG.fl318, ↓asP_h hG.fp311_12, hG.fo319, hG.fa319, hG.fl319, ↓asP_h hG.fp311_15, hG.fo320, hG.fa320, hG.fl320, ↓asP_h hG.fp311_16, hG.fo321, hG.fa321, hG.fl321, ↓asP_h hG.fp311_17, hG.fo322, hG.fa322, hG.fl322, ↓asP_h hG.fp311_18, hG.fo323, hG.fa323, hG.fl323, ↓asP_h hG.fp311_19, hG.fo324, hG.fa324, hG.fl324, ↓asP_h hG.fp311_22, hG.fo325, hG.fa325, hG.fl325, ↓asP_h hG.fp311_23, hG.fo326, hG.fa326, hG.fl326, ↓asP_h hG.fp311_24, hG.fo327, hG.fa327, hG.fl327, ↓asP_h hG.fp311_27, hG.fo328, hG.fa328, hG.fl328, ↓asP_h hG.fp311_28, hG.fo329, hG.fa329, hG.fl329, ↓asP_h hG.fp311_31, hG.fo330, hG.fa330, hG.fl330, ↓asP_h hG.fp311_34, hG.fo331, hG.fa331, hG.fl331, ↓asP_h hG.fp311_37, hG.fo332, hG.fa332, hG.fl332, ↓asP_h hG.fp311_38, hG.fo333, hG.fa333, hG.fl333, ↓asP_h hG.fp311_39, hG.fo334, hG.fl334, ↓asP_h hG.fp311_41, hG.fo335, hG.fa335, hG.fl335, ↓asP_h hG.fp311_42, hG.fo336, hG.fa336, hG.fl336, ↓asP_h hG.fp311_43, hG.fo337, hG.fa337, hG.fl337]
  refine ⟨_, _, _, _, rfl, r_open hG (by omega), ?_⟩
  simp only [↓tX11_readLaw, ↓opPush, ↓opILoad, ↓opLLoad, ↓opALoad, ↓opIStore, ↓opAStore, ↓opLStore, ↓opIInc, ↓opI1, ↓opII, ↓opID, ↓opLL, ↓opLD, ↓opLI, ↓opI2L, ↓opL2I, ↓opLcmp, ↓opDup, ↓opDupX1, ↓opDup2, ↓opPop, ↓opIf1, ↓opIf2, ↓opGoto, ↓opIRet, ↓opZRet, ↓opLRet, ↓opVRet, ↓opGetI, ↓opGetL, ↓opGetR, ↓opPutI, ↓opPutZ, ↓opPutL, ↓opPutR, ↓opIALoad, ↓opBALoad, ↓opZALoad, ↓opLALoad, ↓opAALoad, ↓opIAStore, ↓opZAStore, ↓opLAStore, ↓opALen, ↓opGetS, ↓opGetC, ↓opStrV, ↓opStrC, ↓opCallV, ↓opCallS, ↓opSw, ↓opCopy, ↓opCallT, ↓opBRet, ↓opObjI, ↓opNew, ↓opNewA, ↓opANew, ↓opAAStore, ↓opMNew, ↓opCallI, ↓wp_s, ↓wp_0, ↓popI_c, ↓popL_c, ↓popR_c, ↓pop1_i, ↓pop1_r, ↓ldI_0, ↓ldI_s, ↓ldL_0, ↓ldL_s, ↓ldR_0, ↓ldR_s, ↓stL_0, ↓stL_s, ↓tk_0, ↓tk_s, ↓Kc_s, ↓Kc_n, isS_0, isS_s, asP_c, gi_0, gi_s, noL_0, noL_s, isW_n, isW_i, isW_r, rcv_c, rcvT_c, swK_0, swK_s, catS, or_false, false_or, not_false_eq_true, not_true_eq_false, true_implies, false_implies, and_true, true_and, ↓reduceIte, Nat.reduceAdd, Nat.reduceLT, Nat.reduceLeDiff, Nat.reduceEqDiff, Nat.reduceSub, forall_const, eq_self, and_self, or_true, true_or, hG.fo311, ↓asP_h hG.fp311_1, hG.fo312, hG.fa312, hG.fl312, ↓asP_h hG.fp311_6, hG.fo313, hG.fa313, hG.fl313, ↓asP_h hG.fp311_7, hG.fo314, hG.fa314, hG.fl314, ↓asP_h hG.fp311_8, hG.fo315, hG.fa315, hG.fl315, ↓asP_h hG.fp311_9, hG.fo316, hG.fa316, hG.fl316, ↓asP_h hG.fp311_10, hG.fo317, hG.fa317, hG.fl317, ↓asP_h hG.fp311_11, hG.fo318, hG.fa318, hG.fl318, ↓asP_h hG.fp311_12, hG.fo319, hG.fa319, hG.fl319, ↓asP_h hG.fp311_15, hG.fo320, hG.fa320, hG.fl320, ↓asP_h hG.fp311_16, hG.fo321, hG.fa321, hG.fl321, ↓asP_h hG.fp311_17, hG.fo322, hG.fa322, hG.fl322, ↓asP_h hG.fp311_18, hG.fo323, hG.fa323, hG.fl323, ↓asP_h hG.fp311_19, hG.fo324, hG.fa324, hG.fl324, ↓asP_h hG.fp311_22, hG.fo325, hG.fa325, hG.fl325, ↓asP_h hG.fp311_23, hG.fo326, hG.fa326, hG.fl326, ↓asP_h hG.fp311_24, hG.fo327, hG.fa327, hG.fl327, ↓asP_h hG.fp311_27, hG.fo328, hG.fa328, hG.fl328, ↓asP_h hG.fp311_28, hG.fo329, hG.fa329, hG.fl329, ↓asP_h hG.fp311_31, hG.fo330, hG.fa330, hG.fl330, ↓asP_h hG.fp311_34, hG.fo331, hG.fa331, hG.fl331, ↓asP_h hG.fp311_37, hG.fo332, hG.fa332, hG.fl332, ↓asP_h hG.fp311_38, hG.fo333, hG.fa333, hG.fl333, ↓asP_h hG.fp311_39, hG.fo334, hG.fl334, ↓asP_h hG.fp311_41, hG.fo335, hG.fa335, hG.fl335, ↓asP_h hG.fp311_42, hG.fo336, hG.fa336, hG.fl336, ↓asP_h hG.fp311_43, hG.fo337, hG.fa337, hG.fl337]
  refine ⟨_, _, _, _, rfl, run, ?_⟩
  simp only [↓tX11_readLaw, ↓opPush, ↓opILoad, ↓opLLoad, ↓opALoad, ↓opIStore, ↓opAStore, ↓opLStore, ↓opIInc, ↓opI1, ↓opII, ↓opID, ↓opLL, ↓opLD, ↓opLI, ↓opI2L, ↓opL2I, ↓opLcmp, ↓opDup, ↓opDupX1, ↓opDup2, ↓opPop, ↓opIf1, ↓opIf2, ↓opGoto, ↓opIRet, ↓opZRet, ↓opLRet, ↓opVRet, ↓opGetI, ↓opGetL, ↓opGetR, ↓opPutI, ↓opPutZ, ↓opPutL, ↓opPutR, ↓opIALoad, ↓opBALoad, ↓opZALoad, ↓opLALoad, ↓opAALoad, ↓opIAStore, ↓opZAStore, ↓opLAStore, ↓opALen, ↓opGetS, ↓opGetC, ↓opStrV, ↓opStrC, ↓opCallV, ↓opCallS, ↓opSw, ↓opCopy, ↓opCallT, ↓opBRet, ↓opObjI, ↓opNew, ↓opNewA, ↓opANew, ↓opAAStore, ↓opMNew, ↓opCallI, ↓wp_s, ↓wp_0, ↓popI_c, ↓popL_c, ↓popR_c, ↓pop1_i, ↓pop1_r, ↓ldI_0, ↓ldI_s, ↓ldL_0, ↓ldL_s, ↓ldR_0, ↓ldR_s, ↓stL_0, ↓stL_s, ↓tk_0, ↓tk_s, ↓Kc_s, ↓Kc_n, isS_0, isS_s, asP_c, gi_0, gi_s, noL_0, noL_s, isW_n, isW_i, isW_r, rcv_c, rcvT_c, swK_0, swK_s, catS, or_false, false_or, not_false_eq_true, not_true_eq_false, true_implies, false_implies, and_true, true_and, ↓reduceIte, Nat.reduceAdd, Nat.reduceLT, Nat.reduceLeDiff, Nat.reduceEqDiff, Nat.reduceSub, forall_const, eq_self, and_self, or_true, true_or]
  exact ex
end
