/-! ===== Town, TownReader.faultOf, Laws.keep ===== -/
def whC (I : IM) (k : Nat) : Prop := ¬ I 4 0 ≤ I 8 k ∧ ¬ I 4 0 ≤ I 9 k ∧ ¬ I 8 k = I 9 k
abbrev whP (I : IM) : Prop := (∀ k, k < (I 4 1).toNatClampNeg → ¬ I 4 0 ≤ I 8 k ∧ ¬ I 4 0 ≤ I 9 k ∧ ¬ I 8 k = I 9 k) ∧ ¬ I 4 0 < 2
def cp5 (s t : Nat → Int32) (k : Nat) : Int32 := if k < 5 then s k else t k
/-- the draft taken as the town -/
def tcI (I : IM) : IM := putS (upr (upr (up2 (up2 (up2 I 15 0 (I 4 0)) 15 1 (I 4 1)) 15 2 (I 4 2)) 16 (cp5 (I 5) (I 16))) 17 (cp5 (I 6) (I 17))) 18 (getS I 7)
theorem cp5_eq (s t : Nat → Int32) : va_cpy s t 0 0 5 = cp5 s t := by
  funext k
  unfold va_cpy cp5
  simp
theorem putS_pI {X : IM} {s i a : Nat} {F : Int32} {V : SV} (h : s < i ∨ i + 4 < s) : putS (pI X s a F) i V = pI (putS X i V) s a F := by
  refine putS_eq (fun r k hk => ?_) (fun b k hk => ?_)
  · have : i + r ≠ s := by unfold inSt at hk; omega
    rw [pI_ne this, putS_in hk]
  · by_cases e : b = s
    · subst e
      unfold pI up2
      have hX : putS X i V b = X b := putS_far h
      simp [hX]
    · rw [pI_ne e, pI_ne e, putS_out hk]
theorem clD_pI (X : IM) (a : Nat) (F : Int32) : clD (pI X 12 a F) = pI (clD X) 12 a F := by
  unfold clD
  rw [up2_pI (by decide), up2_pI (by decide), up2_pI (by decide), up2_pI (by decide), putS_pI (by decide), up2_pI (by decide)]
theorem clD_ne (X : IM) {b : Nat} (h1 : b ≠ 3) (h2 : b ≠ 4) (h3 : b < 7 ∨ 11 < b) : clD X b = X b := by
  unfold clD
  rw [up2_ne (by omega), putS_far (by omega), up2_ne (by omega), up2_ne (by omega), up2_ne (by omega), up2_ne (by omega)]
theorem clD_4 (X : IM) (k : Nat) : clD X 4 k = if k = 2 then 1 else if k = 1 then 0 else if k = 0 then 0 else X 4 k := by
  unfold clD
  rw [up2_ne (by decide), putS_far (by decide)]
  unfold up2
  by_cases h2 : k = 2
  · simp [h2]
  · by_cases h1 : k = 1
    · simp [h1]
    · by_cases h0 : k = 0
      · simp [h0]
      · simp [h0, h1, h2]
def tlF (L : Nat) : Nat → IM → Nat → Int32 → IM × Nat × Int32
  | 0, I, a, F => (I, a, F)
  | n + 1, I, a, F => if nxR (I 2) L (tcF L I a F).2.1 (tcF L I a F).2.2 = 59 then tlF L n (tcF L I a F).1 (tkA L (nxA (I 2) L (tcF L I a F).2.1 (tcF L I a F).2.2)) (tcF L I a F).2.2 else ((tcF L I a F).1, nxA (I 2) L (tcF L I a F).2.1 (tcF L I a F).2.2, (tcF L I a F).2.2)
def tfS (L : Nat) (I : IM) : IM × Nat × Int32 := tlF L 241 (clD (sgI I 12 L)) 0 (-1)
def tfF (L : Nat) (I : IM) : Int32 := if nxR (I 2) L (tfS L I).2.1 (tfS L I).2.2 = -1 ∧ whP (tfS L I).1 then (tfS L I).2.2 else wrF (nxA (I 2) L (tfS L I).2.1 (tfS L I).2.2) (tfS L I).2.2
def tfI (L : Nat) (I : IM) : IM := pI (up2 (tfS L I).1 7 4 (bitI ((tfS L I).1 4 0) - 1)) 12 (nxA (I 2) L (tfS L I).2.1 (tfS L I).2.2) (tfF L I)
theorem tcF_2 (L : Nat) (I : IM) (a : Nat) (F : Int32) {b : Nat} (hb : b < 3 ∨ b = 12 ∨ 14 < b) : (tcF L I a F).1 b = I b := by
  unfold tcF
  split
  · show rrI I _ b = _
    unfold rrI
    rw [up2_ne (by omega), up2_ne (by omega), up2_ne (by omega), rwI_ne (by omega)]
  · split
    · show rpI I _ _ b = _
      unfold rpI
      rw [up2_ne (by omega), up2_ne (by omega), up2_ne (by omega), rwI_ne (by omega)]
    · split
      · show rgI I _ _ b = _
        unfold rgI
        rw [up2_ne (by omega), up2_ne (by omega), up2_ne (by omega), up2_ne (by omega), up2_ne (by omega), rwI_ne (by omega)]
      · rfl
theorem rng_s {x N : Int32} {n : Nat} (h : rng x n) (hN : nI n = N) (hn : n < 2 ^ 31) (c : ¬ N ≤ x) : rng (nI (x.toNatClampNeg + 1)) n := by
  obtain ⟨m, hm, rfl⟩ := h
  subst hN
  refine ⟨m + 1, ?_, by rw [nI_clamp (by omega)]⟩
  by_cases e : m = n
  · subst e; exact absurd (Int32.le_refl _) c
  · omega
theorem rr_4 (I : IM) (it : Nat → Int32) {k : Nat} (h : k ≠ 2) : rrI I it 4 k = I 4 k := by
  unfold rrI
  rw [up2_ne (by decide), up2_ne (by decide), up2_nk h, rwI_ne (by decide)]
theorem rp_40 (I : IM) (it : Nat → Int32) (p : Nat) : rpI I it p 4 0 = nI (p + 1) := up2_sa _ _ _ _
theorem rp_41 (I : IM) (it : Nat → Int32) (p : Nat) : rpI I it p 4 1 = I 4 1 := by
  unfold rpI
  rw [up2_nk (by decide), up2_ne (by decide), up2_ne (by decide), rwI_ne (by decide)]
theorem rg_41 (I : IM) (it : Nat → Int32) (p : Nat) : rgI I it p 4 1 = nI (p + 1) := up2_sa _ _ _ _
theorem rg_40 (I : IM) (it : Nat → Int32) (p : Nat) : rgI I it p 4 0 = I 4 0 := by
  unfold rgI
  rw [up2_nk (by decide), up2_ne (by decide), up2_ne (by decide), up2_ne (by decide), up2_ne (by decide), rwI_ne (by decide)]
theorem tcF_ok {L : Nat} {I : IM} (a : Nat) (F : Int32) (h : TRok L I) : TRok L (tcF L I a F).1 := by
  obtain ⟨h1, h2, h3⟩ := h
  refine ⟨by rw [tcF_2 L I a F (by omega)]; exact h1, ?_⟩
  unfold tcF
  split
  · simp only [rr_4 I _ (show 0 ≠ 2 by decide), rr_4 I _ (show 1 ≠ 2 by decide)]
    exact ⟨h2, h3⟩
  · split
    · rename_i c
      simp only [rp_40, rp_41]
      exact ⟨rng_s h2 rfl (by decide) c.2, h3⟩
    · split
      · rename_i c
        simp only [rg_40, rg_41]
        exact ⟨h2, rng_s h3 rfl (by decide) c.2⟩
      · exact ⟨h2, h3⟩
theorem tcF_le {L : Nat} (I : IM) {a : Nat} (F : Int32) (ha : a ≤ L) : (tcF L I a F).2.1 ≤ L := by
  have h1 := nxA_le (I 2) F ha
  unfold tcF
  split
  · exact riL_le _ _ _ _ _ _ _ _ _ _ _ (tkA_le h1)
  · split
    · exact riL_le _ _ _ _ _ _ _ _ _ _ _ (tkA_le h1)
    · split
      · exact riL_le _ _ _ _ _ _ _ _ _ _ _ (tkA_le h1)
      · exact h1
theorem tlF_ok (L : Nat) : ∀ (n : Nat) (I : IM) (a : Nat) (F : Int32), TRok L I → a ≤ L → TRok L (tlF L n I a F).1 ∧ (tlF L n I a F).2.1 ≤ L ∧ ∀ b, b < 3 ∨ b = 12 ∨ 14 < b → (tlF L n I a F).1 b = I b
  | 0, I, a, F, h, ha => ⟨h, ha, fun _ _ => rfl⟩
  | n + 1, I, a, F, h, ha => by
    have h1 := tcF_ok a F h
    have h2 := tcF_le I F ha
    have h3 := nxA_le (I 2) (tcF L I a F).2.2 h2
    unfold tlF
    split
    · obtain ⟨g1, g2, g3⟩ := tlF_ok L n (tcF L I a F).1 (tkA L (nxA (I 2) L (tcF L I a F).2.1 (tcF L I a F).2.2)) (tcF L I a F).2.2 h1 (tkA_le h3)
      exact ⟨g1, g2, fun b hb => (g3 b hb).trans (tcF_2 L I a F hb)⟩
    · exact ⟨h1, h3, fun b hb => tcF_2 L I a F hb⟩
theorem GTs.law {G : GD} (h : GTs G) : ∀ k, k < 4 → gP G 28 k = some (29 + k) ∧ okO G (29 + k) 100 ∧ gL G (29 + k) = 241 := by
  intro k hk
  rcases (show k = 0 ∨ k = 1 ∨ k = 2 ∨ k = 3 by omega) with rfl | rfl | rfl | rfl
  · exact ⟨h.p 28 0 29 rfl rfl, h.o 29 100 rfl rfl, h.l 29 241 rfl rfl⟩
  · exact ⟨h.p 28 1 30 rfl rfl, h.o 30 100 rfl rfl, h.l 30 241 rfl rfl⟩
  · exact ⟨h.p 28 2 31 rfl rfl, h.o 31 100 rfl rfl, h.l 31 241 rfl rfl⟩
  · exact ⟨h.p 28 3 32 rfl rfl, h.o 32 100 rfl rfl, h.l 32 241 rfl rfl⟩
/-- a law kept -/
def lkI (I : IM) (h len : Nat) : IM := up2 (up2 (upr I (29 + h) (va_cpy (I 24) (I (29 + h)) 0 0 len)) 33 h (nI len)) 27 5 (nI (h + 1))
section
variable {E : EV} {d : Nat} {G : GD} {I : IM} {L : Nat}
set_option maxRecDepth 100000 in
set_option maxHeartbeats 4000000 in
theorem c_isWhole (hG : GTs G) (h0 : rng (I 4 0) 5) (h1 : rng (I 4 1) 10) : Run E d mX8_isWhole [.ref 4] (0, 0) G I (some (.int (bInt (whP I)))) G I := by
  obtain ⟨g, hg, hg2⟩ := h1
  have eg : (I 4 1).toNatClampNeg = g := by rw [hg2]; exact nI_clamp (by omega)
  have key : ∀ k, k ≤ g → (∀ j, j < k → whC I j) → Ex E d mX8_isWhole (fun a b c => a = some (.int (bInt (whP I))) ∧ b = G ∧ c = I) 2 [some (.ref 4), some (.int (nI k)), none, none] [] (0, 0) G I := by
    refine dn ?_ ?_
    · intro hall
      refine Ex.run TX8_isWhole [2] 60 ?_
      simp only [↓tX8_isWhole, ↓opPush, ↓opILoad, ↓opLLoad, ↓opALoad, ↓opIStore, ↓opAStore, ↓opLStore, ↓opIInc, ↓opI1, ↓opII, ↓opID, ↓opLL, ↓opLD, ↓opLI, ↓opI2L, ↓opL2I, ↓opLcmp, ↓opDup, ↓opDupX1, ↓opDup2, ↓opPop, ↓opIf1, ↓opIf2, ↓opGoto, ↓opIRet, ↓opZRet, ↓opLRet, ↓opVRet, ↓opGetI, ↓opGetL, ↓opGetR, ↓opPutI, ↓opPutZ, ↓opPutL, ↓opPutR, ↓opIALoad, ↓opBALoad, ↓opZALoad, ↓opLALoad, ↓opAALoad, ↓opIAStore, ↓opZAStore, ↓opLAStore, ↓opALen, ↓opGetS, ↓opGetC, ↓opStrV, ↓opStrC, ↓opCallV, ↓opCallS, ↓opSw, ↓opCopy, ↓opCallT, ↓opBRet, ↓opObjI, ↓opNew, ↓opNewA, ↓opANew, ↓opAAStore, ↓opMNew, ↓opCallI, ↓wp_s, ↓wp_0, ↓popI_c, ↓popL_c, ↓popR_c, ↓pop1_i, ↓pop1_r, ↓ldI_0, ↓ldI_s, ↓ldL_0, ↓ldL_s, ↓ldR_0, ↓ldR_s, ↓stL_0, ↓stL_s, ↓tk_0, ↓tk_s, ↓Kc_s, ↓Kc_n, isS_0, isS_s, asP_c, gi_0, gi_s, noL_0, noL_s, isW_n, isW_i, isW_r, rcv_c, rcvT_c, swK_0, swK_s, catS, or_false, false_or, not_false_eq_true, not_true_eq_false, true_implies, false_implies, and_true, true_and, ↓reduceIte, Nat.reduceAdd, Nat.reduceLT, Nat.reduceLeDiff, Nat.reduceEqDiff, Nat.reduceSub, forall_const, eq_self, and_self, or_true, true_or, hG.o 4 8 rfl rfl, ↓asP_h (hG.p 4 3 5 rfl rfl), hG.o 5 100 rfl rfl, (hG.o 5 100 rfl rfl).A, hG.l 5 5 rfl rfl, ↓asP_h (hG.p 4 4 6 rfl rfl), hG.o 6 100 rfl rfl, (hG.o 6 100 rfl rfl).A, hG.l 6 5 rfl rfl, ↓asP_h (hG.p 4 5 7 rfl rfl), hg2, Int32.le_refl]
      refine ⟨fun c => ?_, fun c => ?_⟩
      · rw [bInt_f (fun q => q.2 c)]
      · rw [bInt_t ⟨fun k hk => hall k (by rw [eg] at hk; exact hk), c⟩]
    · intro k hk ih hall
      refine Ex.run TX8_isWhole [2] 60 ?_
      simp only [↓tX8_isWhole, ↓opPush, ↓opILoad, ↓opLLoad, ↓opALoad, ↓opIStore, ↓opAStore, ↓opLStore, ↓opIInc, ↓opI1, ↓opII, ↓opID, ↓opLL, ↓opLD, ↓opLI, ↓opI2L, ↓opL2I, ↓opLcmp, ↓opDup, ↓opDupX1, ↓opDup2, ↓opPop, ↓opIf1, ↓opIf2, ↓opGoto, ↓opIRet, ↓opZRet, ↓opLRet, ↓opVRet, ↓opGetI, ↓opGetL, ↓opGetR, ↓opPutI, ↓opPutZ, ↓opPutL, ↓opPutR, ↓opIALoad, ↓opBALoad, ↓opZALoad, ↓opLALoad, ↓opAALoad, ↓opIAStore, ↓opZAStore, ↓opLAStore, ↓opALen, ↓opGetS, ↓opGetC, ↓opStrV, ↓opStrC, ↓opCallV, ↓opCallS, ↓opSw, ↓opCopy, ↓opCallT, ↓opBRet, ↓opObjI, ↓opNew, ↓opNewA, ↓opANew, ↓opAAStore, ↓opMNew, ↓opCallI, ↓wp_s, ↓wp_0, ↓popI_c, ↓popL_c, ↓popR_c, ↓pop1_i, ↓pop1_r, ↓ldI_0, ↓ldI_s, ↓ldL_0, ↓ldL_s, ↓ldR_0, ↓ldR_s, ↓stL_0, ↓stL_s, ↓tk_0, ↓tk_s, ↓Kc_s, ↓Kc_n, isS_0, isS_s, asP_c, gi_0, gi_s, noL_0, noL_s, isW_n, isW_i, isW_r, rcv_c, rcvT_c, swK_0, swK_s, catS, or_false, false_or, not_false_eq_true, not_true_eq_false, true_implies, false_implies, and_true, true_and, ↓reduceIte, Nat.reduceAdd, Nat.reduceLT, Nat.reduceLeDiff, Nat.reduceEqDiff, Nat.reduceSub, forall_const, eq_self, and_self, or_true, true_or, hG.o 4 8 rfl rfl, ↓asP_h (hG.p 4 5 7 rfl rfl), hG.o 7 6 rfl rfl, ↓asP_h (hG.p 7 0 8 rfl rfl), hG.o 8 100 rfl rfl, (hG.o 8 100 rfl rfl).A, hG.l 8 12 rfl rfl, ↓asP_h (hG.p 7 1 9 rfl rfl), hG.o 9 100 rfl rfl, (hG.o 9 100 rfl rfl).A, hG.l 9 12 rfl rfl, hg2, eq_false (nI_ge hk (by omega)), vp_in_nI (show k < 12 by omega) (by decide), nI_clamp (n := k) (by omega)]
      refine ⟨fun c => ?_, fun c => ⟨fun c2 => ?_, fun c2 => ⟨fun c3 => ?_, fun c3 => ?_⟩⟩⟩
      · rw [bInt_f (fun q => (q.1 k (by rw [eg]; exact hk)).1 c)]
      · rw [bInt_f (fun q => (q.1 k (by rw [eg]; exact hk)).2.1 c2)]
      · rw [bInt_f (fun q => (q.1 k (by rw [eg]; exact hk)).2.2 c3)]
      · have := ih (fun j hj => by
          by_cases e : j = k
          · subst e; exact ⟨c, c2, c3⟩
          · exact hall j (by omega))
        rw [nI_succ] at this
        exact this.weak ⟨rfl, rfl, trivial⟩
  refine Ct.run okX8_isWhole TX8_isWhole [2] 60 rfl rfl ?_
  simp only [↓tX8_isWhole, ↓opPush, ↓opILoad, ↓opLLoad, ↓opALoad, ↓opIStore, ↓opAStore, ↓opLStore, ↓opIInc, ↓opI1, ↓opII, ↓opID, ↓opLL, ↓opLD, ↓opLI, ↓opI2L, ↓opL2I, ↓opLcmp, ↓opDup, ↓opDupX1, ↓opDup2, ↓opPop, ↓opIf1, ↓opIf2, ↓opGoto, ↓opIRet, ↓opZRet, ↓opLRet, ↓opVRet, ↓opGetI, ↓opGetL, ↓opGetR, ↓opPutI, ↓opPutZ, ↓opPutL, ↓opPutR, ↓opIALoad, ↓opBALoad, ↓opZALoad, ↓opLALoad, ↓opAALoad, ↓opIAStore, ↓opZAStore, ↓opLAStore, ↓opALen, ↓opGetS, ↓opGetC, ↓opStrV, ↓opStrC, ↓opCallV, ↓opCallS, ↓opSw, ↓opCopy, ↓opCallT, ↓opBRet, ↓opObjI, ↓opNew, ↓opNewA, ↓opANew, ↓opAAStore, ↓opMNew, ↓opCallI, ↓wp_s, ↓wp_0, ↓popI_c, ↓popL_c, ↓popR_c, ↓pop1_i, ↓pop1_r, ↓ldI_0, ↓ldI_s, ↓ldL_0, ↓ldL_s, ↓ldR_0, ↓ldR_s, ↓stL_0, ↓stL_s, ↓tk_0, ↓tk_s, ↓Kc_s, ↓Kc_n, isS_0, isS_s, asP_c, gi_0, gi_s, noL_0, noL_s, isW_n, isW_i, isW_r, rcv_c, rcvT_c, swK_0, swK_s, catS, or_false, false_or, not_false_eq_true, not_true_eq_false, true_implies, false_implies, and_true, true_and, ↓reduceIte, Nat.reduceAdd, Nat.reduceLT, Nat.reduceLeDiff, Nat.reduceEqDiff, Nat.reduceSub, forall_const, eq_self, and_self, or_true, true_or, lve_i, lve_r, lve_l, lve_0, List.replicate_succ, List.replicate_zero, mX, mX8_isWhole]
  exact key 0 (Nat.zero_le _) (fun j hj => absurd hj (by omega))
set_option maxRecDepth 100000 in
set_option maxHeartbeats 4000000 in
theorem c_townCopy (hG : GTs G) : Run E (d + 2) mX8_copyFrom [.ref 15, .ref 4] (0, 0) G I none G (tcI I) := by
  have z1 : ¬ (0 : Int32) < 0 := by decide
  have z2 : ¬ (5 : Int32) < 0 := by decide
  have z3 : (0 : Int32).toNatClampNeg + (5 : Int32).toNatClampNeg ≤ 5 := by decide
  have z4 : (0 : Int32).toNatClampNeg = 0 := by decide
  have z5 : (5 : Int32).toNatClampNeg = 5 := by decide
  refine Ct.run okX8_copyFrom TX8_copyFrom [] 60 rfl rfl ?_
  simp only [↓tX8_copyFrom, ↓opPush, ↓opILoad, ↓opLLoad, ↓opALoad, ↓opIStore, ↓opAStore, ↓opLStore, ↓opIInc, ↓opI1, ↓opII, ↓opID, ↓opLL, ↓opLD, ↓opLI, ↓opI2L, ↓opL2I, ↓opLcmp, ↓opDup, ↓opDupX1, ↓opDup2, ↓opPop, ↓opIf1, ↓opIf2, ↓opGoto, ↓opIRet, ↓opZRet, ↓opLRet, ↓opVRet, ↓opGetI, ↓opGetL, ↓opGetR, ↓opPutI, ↓opPutZ, ↓opPutL, ↓opPutR, ↓opIALoad, ↓opBALoad, ↓opZALoad, ↓opLALoad, ↓opAALoad, ↓opIAStore, ↓opZAStore, ↓opLAStore, ↓opALen, ↓opGetS, ↓opGetC, ↓opStrV, ↓opStrC, ↓opCallV, ↓opCallS, ↓opSw, ↓opCopy, ↓opCallT, ↓opBRet, ↓opObjI, ↓opNew, ↓opNewA, ↓opANew, ↓opAAStore, ↓opMNew, ↓opCallI, ↓wp_s, ↓wp_0, ↓popI_c, ↓popL_c, ↓popR_c, ↓pop1_i, ↓pop1_r, ↓ldI_0, ↓ldI_s, ↓ldL_0, ↓ldL_s, ↓ldR_0, ↓ldR_s, ↓stL_0, ↓stL_s, ↓tk_0, ↓tk_s, ↓Kc_s, ↓Kc_n, isS_0, isS_s, asP_c, gi_0, gi_s, noL_0, noL_s, isW_n, isW_i, isW_r, rcv_c, rcvT_c, swK_0, swK_s, catS, or_false, false_or, not_false_eq_true, not_true_eq_false, true_implies, false_implies, and_true, true_and, ↓reduceIte, Nat.reduceAdd, Nat.reduceLT, Nat.reduceLeDiff, Nat.reduceEqDiff, Nat.reduceSub, forall_const, eq_self, and_self, or_true, true_or, lve_i, lve_r, lve_l, lve_0, List.replicate_succ, List.replicate_zero, mX, mX8_copyFrom, hG.o 15 8 rfl rfl, ↓asP_h (hG.p 15 3 16 rfl rfl), hG.o 16 100 rfl rfl, (hG.o 16 100 rfl rfl).A, hG.l 16 5 rfl rfl, ↓asP_h (hG.p 15 4 17 rfl rfl), hG.o 17 100 rfl rfl, (hG.o 17 100 rfl rfl).A, hG.l 17 5 rfl rfl, ↓asP_h (hG.p 15 5 18 rfl rfl), hG.o 4 8 rfl rfl, ↓asP_h (hG.p 4 3 5 rfl rfl), hG.o 5 100 rfl rfl, (hG.o 5 100 rfl rfl).A, hG.l 5 5 rfl rfl, ↓asP_h (hG.p 4 4 6 rfl rfl), hG.o 6 100 rfl rfl, (hG.o 6 100 rfl rfl).A, hG.l 6 5 rfl rfl, ↓asP_h (hG.p 4 5 7 rfl rfl), z1, z2, z3, z4, z5, Nat.zero_add, Nat.le_refl, Nat.zero_lt_succ, hG.o 18 6 rfl rfl, hG.o 7 6 rfl rfl]
  refine ⟨_, _, _, _, rfl, c_copyFrom (hG.st 18 rfl) (hG.st 7 rfl) (by decide), ?_⟩
  simp only [↓tX8_copyFrom, ↓opPush, ↓opILoad, ↓opLLoad, ↓opALoad, ↓opIStore, ↓opAStore, ↓opLStore, ↓opIInc, ↓opI1, ↓opII, ↓opID, ↓opLL, ↓opLD, ↓opLI, ↓opI2L, ↓opL2I, ↓opLcmp, ↓opDup, ↓opDupX1, ↓opDup2, ↓opPop, ↓opIf1, ↓opIf2, ↓opGoto, ↓opIRet, ↓opZRet, ↓opLRet, ↓opVRet, ↓opGetI, ↓opGetL, ↓opGetR, ↓opPutI, ↓opPutZ, ↓opPutL, ↓opPutR, ↓opIALoad, ↓opBALoad, ↓opZALoad, ↓opLALoad, ↓opAALoad, ↓opIAStore, ↓opZAStore, ↓opLAStore, ↓opALen, ↓opGetS, ↓opGetC, ↓opStrV, ↓opStrC, ↓opCallV, ↓opCallS, ↓opSw, ↓opCopy, ↓opCallT, ↓opBRet, ↓opObjI, ↓opNew, ↓opNewA, ↓opANew, ↓opAAStore, ↓opMNew, ↓opCallI, ↓wp_s, ↓wp_0, ↓popI_c, ↓popL_c, ↓popR_c, ↓pop1_i, ↓pop1_r, ↓ldI_0, ↓ldI_s, ↓ldL_0, ↓ldL_s, ↓ldR_0, ↓ldR_s, ↓stL_0, ↓stL_s, ↓tk_0, ↓tk_s, ↓Kc_s, ↓Kc_n, isS_0, isS_s, asP_c, gi_0, gi_s, noL_0, noL_s, isW_n, isW_i, isW_r, rcv_c, rcvT_c, swK_0, swK_s, catS, or_false, false_or, not_false_eq_true, not_true_eq_false, true_implies, false_implies, and_true, true_and, ↓reduceIte, Nat.reduceAdd, Nat.reduceLT, Nat.reduceLeDiff, Nat.reduceEqDiff, Nat.reduceSub, forall_const, eq_self, and_self, or_true, true_or]
  unfold tcI
  simp only [cp5_eq, upr_ne, up2_ne, ne_eq, Nat.reduceEqDiff, not_false_eq_true]
  refine putS_congr (fun r k hk => ?_)
  have h4 : r ≤ 4 := by unfold inSt at hk; omega
  show upr (upr (up2 (up2 (up2 I 15 0 _) 15 1 _) 15 2 _) 16 _) 17 _ (7 + r) k = I (7 + r) k
  rw [upr_ne (by omega), upr_ne (by omega), up2_ne (by omega), up2_ne (by omega), up2_ne (by omega)]
set_option maxRecDepth 100000 in
set_option maxHeartbeats 4000000 in
theorem c_lawKeep (hG : GTs G) {h len : Nat} (hh : h < 4) (hl : len ≤ 241) (hI : I 27 5 = nI h) : Run E (d + 1) mX2_keep [.ref 27, .ref 24, .int (nI len)] (0, 0) G I (some (.int (nI h))) G (lkI I h len) := by
  obtain ⟨g1, g2, g3⟩ := hG.law h hh
  have e1 : (nI h).toNatClampNeg = h := nI_clamp (by omega)
  have e2 : (nI len).toNatClampNeg = len := nI_clamp (by omega)
  have z1 : ¬ (0 : Int32) < 0 := by decide
  have z4 : (0 : Int32).toNatClampNeg = 0 := by decide
  have e5 : ∀ f, upr I (29 + h) f 27 5 = nI h := fun f => by rw [upr_ne (by omega)]; exact hI
  refine Ct.run okX2_keep TX2_keep [] 60 rfl rfl ?_
  simp only [↓tX2_keep, ↓opPush, ↓opILoad, ↓opLLoad, ↓opALoad, ↓opIStore, ↓opAStore, ↓opLStore, ↓opIInc, ↓opI1, ↓opII, ↓opID, ↓opLL, ↓opLD, ↓opLI, ↓opI2L, ↓opL2I, ↓opLcmp, ↓opDup, ↓opDupX1, ↓opDup2, ↓opPop, ↓opIf1, ↓opIf2, ↓opGoto, ↓opIRet, ↓opZRet, ↓opLRet, ↓opVRet, ↓opGetI, ↓opGetL, ↓opGetR, ↓opPutI, ↓opPutZ, ↓opPutL, ↓opPutR, ↓opIALoad, ↓opBALoad, ↓opZALoad, ↓opLALoad, ↓opAALoad, ↓opIAStore, ↓opZAStore, ↓opLAStore, ↓opALen, ↓opGetS, ↓opGetC, ↓opStrV, ↓opStrC, ↓opCallV, ↓opCallS, ↓opSw, ↓opCopy, ↓opCallT, ↓opBRet, ↓opObjI, ↓opNew, ↓opNewA, ↓opANew, ↓opAAStore, ↓opMNew, ↓opCallI, ↓wp_s, ↓wp_0, ↓popI_c, ↓popL_c, ↓popR_c, ↓pop1_i, ↓pop1_r, ↓ldI_0, ↓ldI_s, ↓ldL_0, ↓ldL_s, ↓ldR_0, ↓ldR_s, ↓stL_0, ↓stL_s, ↓tk_0, ↓tk_s, ↓Kc_s, ↓Kc_n, isS_0, isS_s, asP_c, gi_0, gi_s, noL_0, noL_s, isW_n, isW_i, isW_r, rcv_c, rcvT_c, swK_0, swK_s, catS, or_false, false_or, not_false_eq_true, not_true_eq_false, true_implies, false_implies, and_true, true_and, ↓reduceIte, Nat.reduceAdd, Nat.reduceLT, Nat.reduceLeDiff, Nat.reduceEqDiff, Nat.reduceSub, forall_const, eq_self, and_self, or_true, true_or, lve_i, lve_r, lve_l, lve_0, List.replicate_succ, List.replicate_zero, mX, mX2_keep, hG.o 27 2 rfl rfl, ↓asP_h (hG.p 27 0 28 rfl rfl), hG.o 28 105 rfl rfl, hG.l 28 4 rfl rfl, ↓asP_h (hG.p 27 1 33 rfl rfl), hG.o 33 100 rfl rfl, (hG.o 33 100 rfl rfl).A, hG.l 33 4 rfl rfl, hI, e5, up2_ne, ne_eq, Nat.reduceEqDiff, eq_false (show ¬ (4 : Int32) ≤ nI h from nI_ge hh (by decide)), eq_true (show nI len ≤ (241 : Int32) from nI_le (b := 241) hl (by decide)), e1, e2, z1, z4, nI_pos (n := len) (by omega), ↓asP_h g1, g2, g3, vp_in_nI hh (by decide), hG.o 24 100 rfl rfl, hG.l 24 241 rfl rfl, Nat.zero_add, hl, nI_1, Nat.zero_lt_succ, up2_sa, nI_pred]
  rfl
set_option maxRecDepth 100000 in
set_option maxHeartbeats 4000000 in
theorem c_townFault (hG : GTs G) (hv : GVn G) (hL2 : L ≤ 240) : Run E (d + 7) mX9_faultOf [.ref 3, .ref 2, .int (nI L)] (0, 0) G I (some (.int (tfF L I))) (gS G 12) (tfI L I) := by
  have hG1 := gS_12 hG
  have hs := gS_sg hG (hG.o 12 5 rfl rfl) (by decide)
  have hv1 : GVn (gS G 12) := hv.gS
  have e2 : clD (sgI I 12 L) 2 = I 2 := by
    rw [clD_ne _ (by decide) (by decide) (by decide)]
    exact up2_ne (by decide)
  have hok0 : TRok L (clD (sgI I 12 L)) := ⟨by rw [clD_ne _ (by decide) (by decide) (by decide)]; exact up2_sa _ _ _ _, ⟨0, by omega, by rw [clD_4]; rfl⟩, ⟨0, by omega, by rw [clD_4]; rfl⟩⟩
  have stop : ∀ (Q : QT) (J : IM) (v : Option Value), Ex E (d + 7) mX9_faultOf Q 50 [some (.ref 3), some (.ref 2), some (.int (nI L)), none, none] [] (0, 0) (gS G 12) J → Ex E (d + 7) mX9_faultOf Q 18 [some (.ref 3), some (.ref 2), some (.int (nI L)), some (.int 0), v] [] (0, 0) (gS G 12) J := by
    intro Q J v hx
    refine Ex.run TX9_faultOf [18, 50] 60 ?_
    simp only [↓tX9_faultOf, ↓opPush, ↓opILoad, ↓opLLoad, ↓opALoad, ↓opIStore, ↓opAStore, ↓opLStore, ↓opIInc, ↓opI1, ↓opII, ↓opID, ↓opLL, ↓opLD, ↓opLI, ↓opI2L, ↓opL2I, ↓opLcmp, ↓opDup, ↓opDupX1, ↓opDup2, ↓opPop, ↓opIf1, ↓opIf2, ↓opGoto, ↓opIRet, ↓opZRet, ↓opLRet, ↓opVRet, ↓opGetI, ↓opGetL, ↓opGetR, ↓opPutI, ↓opPutZ, ↓opPutL, ↓opPutR, ↓opIALoad, ↓opBALoad, ↓opZALoad, ↓opLALoad, ↓opAALoad, ↓opIAStore, ↓opZAStore, ↓opLAStore, ↓opALen, ↓opGetS, ↓opGetC, ↓opStrV, ↓opStrC, ↓opCallV, ↓opCallS, ↓opSw, ↓opCopy, ↓opCallT, ↓opBRet, ↓opObjI, ↓opNew, ↓opNewA, ↓opANew, ↓opAAStore, ↓opMNew, ↓opCallI, ↓wp_s, ↓wp_0, ↓popI_c, ↓popL_c, ↓popR_c, ↓pop1_i, ↓pop1_r, ↓ldI_0, ↓ldI_s, ↓ldL_0, ↓ldL_s, ↓ldR_0, ↓ldR_s, ↓stL_0, ↓stL_s, ↓tk_0, ↓tk_s, ↓Kc_s, ↓Kc_n, isS_0, isS_s, asP_c, gi_0, gi_s, noL_0, noL_s, isW_n, isW_i, isW_r, rcv_c, rcvT_c, swK_0, swK_s, catS, or_false, false_or, not_false_eq_true, not_true_eq_false, true_implies, false_implies, and_true, true_and, ↓reduceIte, Nat.reduceAdd, Nat.reduceLT, Nat.reduceLeDiff, Nat.reduceEqDiff, Nat.reduceSub, forall_const, eq_self, and_self, or_true, true_or]
    exact hx.weak ⟨rfl, rfl, rfl, trivial⟩
  have key : ∀ n i J a F, i + n = 241 → TRok L J → a ≤ L → ∀ Q, Ex E (d + 7) mX9_faultOf Q 50 [some (.ref 3), some (.ref 2), some (.int (nI L)), none, none] [] (0, 0) (gS G 12) (pI (tlF L n J a F).1 12 (tlF L n J a F).2.1 (tlF L n J a F).2.2) → Ex E (d + 7) mX9_faultOf Q 18 [some (.ref 3), some (.ref 2), some (.int (nI L)), some (.int 1), some (.int (nI i))] [] (0, 0) (gS G 12) (pI J 12 a F) := by
    intro n
    induction n with
    | zero =>
      intro i J a F hi hJ ha Q hx
      refine Ex.run TX9_faultOf [18, 50] 60 ?_
      simp only [↓tX9_faultOf, ↓opPush, ↓opILoad, ↓opLLoad, ↓opALoad, ↓opIStore, ↓opAStore, ↓opLStore, ↓opIInc, ↓opI1, ↓opII, ↓opID, ↓opLL, ↓opLD, ↓opLI, ↓opI2L, ↓opL2I, ↓opLcmp, ↓opDup, ↓opDupX1, ↓opDup2, ↓opPop, ↓opIf1, ↓opIf2, ↓opGoto, ↓opIRet, ↓opZRet, ↓opLRet, ↓opVRet, ↓opGetI, ↓opGetL, ↓opGetR, ↓opPutI, ↓opPutZ, ↓opPutL, ↓opPutR, ↓opIALoad, ↓opBALoad, ↓opZALoad, ↓opLALoad, ↓opAALoad, ↓opIAStore, ↓opZAStore, ↓opLAStore, ↓opALen, ↓opGetS, ↓opGetC, ↓opStrV, ↓opStrC, ↓opCallV, ↓opCallS, ↓opSw, ↓opCopy, ↓opCallT, ↓opBRet, ↓opObjI, ↓opNew, ↓opNewA, ↓opANew, ↓opAAStore, ↓opMNew, ↓opCallI, ↓wp_s, ↓wp_0, ↓popI_c, ↓popL_c, ↓popR_c, ↓pop1_i, ↓pop1_r, ↓ldI_0, ↓ldI_s, ↓ldL_0, ↓ldL_s, ↓ldR_0, ↓ldR_s, ↓stL_0, ↓stL_s, ↓tk_0, ↓tk_s, ↓Kc_s, ↓Kc_n, isS_0, isS_s, asP_c, gi_0, gi_s, noL_0, noL_s, isW_n, isW_i, isW_r, rcv_c, rcvT_c, swK_0, swK_s, catS, or_false, false_or, not_false_eq_true, not_true_eq_false, true_implies, false_implies, and_true, true_and, ↓reduceIte, Nat.reduceAdd, Nat.reduceLT, Nat.reduceLeDiff, Nat.reduceEqDiff, Nat.reduceSub, forall_const, eq_self, and_self, or_true, true_or, show i = 241 by omega, show (240 : Int32) < nI 241 by decide, show ¬ (1 : Int32) = 0 by decide]
      exact hx.weak ⟨rfl, rfl, rfl, trivial⟩
    | succ n ih =>
      intro i J a F hi hJ ha Q hx
      have h1 := tcF_ok a F hJ
      have h2 := tcF_le J F ha
      have run1 := c_readClauseT (E := E) (d := d) hG1 hs hv1 hJ hL2 ha F
      have htk := c_takes (E := E) (d := d + 5) (I := (tcF L J a F).1) hs h1.1 hL2 h2 (tcF L J a F).2.2 59
      rw [tcF_2 L J a F (show 2 < 3 ∨ _ from Or.inl (by decide))] at htk
      have h3 := nxA_le (J 2) (tcF L J a F).2.2 h2
      refine Ex.run TX9_faultOf [18, 50] 60 ?_
      simp only [↓tX9_faultOf, ↓opPush, ↓opILoad, ↓opLLoad, ↓opALoad, ↓opIStore, ↓opAStore, ↓opLStore, ↓opIInc, ↓opI1, ↓opII, ↓opID, ↓opLL, ↓opLD, ↓opLI, ↓opI2L, ↓opL2I, ↓opLcmp, ↓opDup, ↓opDupX1, ↓opDup2, ↓opPop, ↓opIf1, ↓opIf2, ↓opGoto, ↓opIRet, ↓opZRet, ↓opLRet, ↓opVRet, ↓opGetI, ↓opGetL, ↓opGetR, ↓opPutI, ↓opPutZ, ↓opPutL, ↓opPutR, ↓opIALoad, ↓opBALoad, ↓opZALoad, ↓opLALoad, ↓opAALoad, ↓opIAStore, ↓opZAStore, ↓opLAStore, ↓opALen, ↓opGetS, ↓opGetC, ↓opStrV, ↓opStrC, ↓opCallV, ↓opCallS, ↓opSw, ↓opCopy, ↓opCallT, ↓opBRet, ↓opObjI, ↓opNew, ↓opNewA, ↓opANew, ↓opAAStore, ↓opMNew, ↓opCallI, ↓wp_s, ↓wp_0, ↓popI_c, ↓popL_c, ↓popR_c, ↓pop1_i, ↓pop1_r, ↓ldI_0, ↓ldI_s, ↓ldL_0, ↓ldL_s, ↓ldR_0, ↓ldR_s, ↓stL_0, ↓stL_s, ↓tk_0, ↓tk_s, ↓Kc_s, ↓Kc_n, isS_0, isS_s, asP_c, gi_0, gi_s, noL_0, noL_s, isW_n, isW_i, isW_r, rcv_c, rcvT_c, swK_0, swK_s, catS, or_false, false_or, not_false_eq_true, not_true_eq_false, true_implies, false_implies, and_true, true_and, ↓reduceIte, Nat.reduceAdd, Nat.reduceLT, Nat.reduceLeDiff, Nat.reduceEqDiff, Nat.reduceSub, forall_const, eq_self, and_self, or_true, true_or, eq_false (show ¬ (240 : Int32) < nI i from nI_nlt (a := 240) (by omega) (by decide)), show ¬ (1 : Int32) = 0 by decide, show okO (gS G 12) 3 9 from hG.o 3 9 rfl rfl]
      refine ⟨_, _, _, _, rfl, run1, ?_⟩
      simp only [↓tX9_faultOf, ↓opPush, ↓opILoad, ↓opLLoad, ↓opALoad, ↓opIStore, ↓opAStore, ↓opLStore, ↓opIInc, ↓opI1, ↓opII, ↓opID, ↓opLL, ↓opLD, ↓opLI, ↓opI2L, ↓opL2I, ↓opLcmp, ↓opDup, ↓opDupX1, ↓opDup2, ↓opPop, ↓opIf1, ↓opIf2, ↓opGoto, ↓opIRet, ↓opZRet, ↓opLRet, ↓opVRet, ↓opGetI, ↓opGetL, ↓opGetR, ↓opPutI, ↓opPutZ, ↓opPutL, ↓opPutR, ↓opIALoad, ↓opBALoad, ↓opZALoad, ↓opLALoad, ↓opAALoad, ↓opIAStore, ↓opZAStore, ↓opLAStore, ↓opALen, ↓opGetS, ↓opGetC, ↓opStrV, ↓opStrC, ↓opCallV, ↓opCallS, ↓opSw, ↓opCopy, ↓opCallT, ↓opBRet, ↓opObjI, ↓opNew, ↓opNewA, ↓opANew, ↓opAAStore, ↓opMNew, ↓opCallI, ↓wp_s, ↓wp_0, ↓popI_c, ↓popL_c, ↓popR_c, ↓pop1_i, ↓pop1_r, ↓ldI_0, ↓ldI_s, ↓ldL_0, ↓ldL_s, ↓ldR_0, ↓ldR_s, ↓stL_0, ↓stL_s, ↓tk_0, ↓tk_s, ↓Kc_s, ↓Kc_n, isS_0, isS_s, asP_c, gi_0, gi_s, noL_0, noL_s, isW_n, isW_i, isW_r, rcv_c, rcvT_c, swK_0, swK_s, catS, or_false, false_or, not_false_eq_true, not_true_eq_false, true_implies, false_implies, and_true, true_and, ↓reduceIte, Nat.reduceAdd, Nat.reduceLT, Nat.reduceLeDiff, Nat.reduceEqDiff, Nat.reduceSub, forall_const, eq_self, and_self, or_true, true_or, show okO (gS G 12) 3 9 from hG.o 3 9 rfl rfl, ↓asP_h (hG1.p 3 1 12 rfl rfl), hG1.o 12 5 rfl rfl]
      refine ⟨_, _, _, _, rfl, htk, ?_⟩
      simp only [↓tX9_faultOf, ↓opPush, ↓opILoad, ↓opLLoad, ↓opALoad, ↓opIStore, ↓opAStore, ↓opLStore, ↓opIInc, ↓opI1, ↓opII, ↓opID, ↓opLL, ↓opLD, ↓opLI, ↓opI2L, ↓opL2I, ↓opLcmp, ↓opDup, ↓opDupX1, ↓opDup2, ↓opPop, ↓opIf1, ↓opIf2, ↓opGoto, ↓opIRet, ↓opZRet, ↓opLRet, ↓opVRet, ↓opGetI, ↓opGetL, ↓opGetR, ↓opPutI, ↓opPutZ, ↓opPutL, ↓opPutR, ↓opIALoad, ↓opBALoad, ↓opZALoad, ↓opLALoad, ↓opAALoad, ↓opIAStore, ↓opZAStore, ↓opLAStore, ↓opALen, ↓opGetS, ↓opGetC, ↓opStrV, ↓opStrC, ↓opCallV, ↓opCallS, ↓opSw, ↓opCopy, ↓opCallT, ↓opBRet, ↓opObjI, ↓opNew, ↓opNewA, ↓opANew, ↓opAAStore, ↓opMNew, ↓opCallI, ↓wp_s, ↓wp_0, ↓popI_c, ↓popL_c, ↓popR_c, ↓pop1_i, ↓pop1_r, ↓ldI_0, ↓ldI_s, ↓ldL_0, ↓ldL_s, ↓ldR_0, ↓ldR_s, ↓stL_0, ↓stL_s, ↓tk_0, ↓tk_s, ↓Kc_s, ↓Kc_n, isS_0, isS_s, asP_c, gi_0, gi_s, noL_0, noL_s, isW_n, isW_i, isW_r, rcv_c, rcvT_c, swK_0, swK_s, catS, or_false, false_or, not_false_eq_true, not_true_eq_false, true_implies, false_implies, and_true, true_and, ↓reduceIte, Nat.reduceAdd, Nat.reduceLT, Nat.reduceLeDiff, Nat.reduceEqDiff, Nat.reduceSub, forall_const, eq_self, and_self, or_true, true_or]
      unfold tlF at hx
      by_cases c : nxR (J 2) L (tcF L J a F).2.1 (tcF L J a F).2.2 = 59
      · rw [if_pos c] at hx
        rw [if_pos c, bInt_t c, nI_1]
        exact ih (i + 1) _ _ _ (by omega) h1 (tkA_le h3) Q hx
      · rw [if_neg c] at hx
        rw [if_neg c, bInt_f c]
        exact stop Q _ _ hx
  have T : TRok L (tfS L I).1 ∧ (tfS L I).2.1 ≤ L ∧ ∀ b, b < 3 ∨ b = 12 ∨ 14 < b → (tfS L I).1 b = clD (sgI I 12 L) b := by unfold tfS; exact tlF_ok L 241 (clD (sgI I 12 L)) 0 (-1) hok0 (Nat.zero_le _)
  obtain ⟨g1, g2, g3⟩ := T
  have g32 := (g3 2 (Or.inl (by decide))).trans e2
  have fin := key 241 0 (clD (sgI I 12 L)) 0 (-1) rfl hok0 (Nat.zero_le _) (fun a b c => a = some (.int (tfF L I)) ∧ b = gS G 12 ∧ c = tfI L I)
  rw [show tlF L 241 (clD (sgI I 12 L)) 0 (-1) = tfS L I by unfold tfS; exact Eq.refl _] at fin
  have hnx := c_next (E := E) (d := d + 6) (I := (tfS L I).1) hs g1.1 hL2 g2 (tfS L I).2.2
  rw [g32] at hnx
  have hwh := c_isWhole (E := E) (d := d + 6) (G := gS G 12) (I := pI (tfS L I).1 12 (nxA (I 2) L (tfS L I).2.1 (tfS L I).2.2) (tfS L I).2.2) hG1 (by rw [pI_ne (by decide)]; exact g1.2.1) (by rw [pI_ne (by decide)]; exact g1.2.2)
  have hw2 : whP (pI (tfS L I).1 12 (nxA (I 2) L (tfS L I).2.1 (tfS L I).2.2) (tfS L I).2.2) = whP (tfS L I).1 := by
    unfold whP
    rw [pI_ne (by decide), pI_ne (by decide), pI_ne (by decide)]
  refine Ct.run okX9_faultOf TX9_faultOf [18] 60 rfl rfl ?_
  simp only [↓tX9_faultOf, ↓opPush, ↓opILoad, ↓opLLoad, ↓opALoad, ↓opIStore, ↓opAStore, ↓opLStore, ↓opIInc, ↓opI1, ↓opII, ↓opID, ↓opLL, ↓opLD, ↓opLI, ↓opI2L, ↓opL2I, ↓opLcmp, ↓opDup, ↓opDupX1, ↓opDup2, ↓opPop, ↓opIf1, ↓opIf2, ↓opGoto, ↓opIRet, ↓opZRet, ↓opLRet, ↓opVRet, ↓opGetI, ↓opGetL, ↓opGetR, ↓opPutI, ↓opPutZ, ↓opPutL, ↓opPutR, ↓opIALoad, ↓opBALoad, ↓opZALoad, ↓opLALoad, ↓opAALoad, ↓opIAStore, ↓opZAStore, ↓opLAStore, ↓opALen, ↓opGetS, ↓opGetC, ↓opStrV, ↓opStrC, ↓opCallV, ↓opCallS, ↓opSw, ↓opCopy, ↓opCallT, ↓opBRet, ↓opObjI, ↓opNew, ↓opNewA, ↓opANew, ↓opAAStore, ↓opMNew, ↓opCallI, ↓wp_s, ↓wp_0, ↓popI_c, ↓popL_c, ↓popR_c, ↓pop1_i, ↓pop1_r, ↓ldI_0, ↓ldI_s, ↓ldL_0, ↓ldL_s, ↓ldR_0, ↓ldR_s, ↓stL_0, ↓stL_s, ↓tk_0, ↓tk_s, ↓Kc_s, ↓Kc_n, isS_0, isS_s, asP_c, gi_0, gi_s, noL_0, noL_s, isW_n, isW_i, isW_r, rcv_c, rcvT_c, swK_0, swK_s, catS, or_false, false_or, not_false_eq_true, not_true_eq_false, true_implies, false_implies, and_true, true_and, ↓reduceIte, Nat.reduceAdd, Nat.reduceLT, Nat.reduceLeDiff, Nat.reduceEqDiff, Nat.reduceSub, forall_const, eq_self, and_self, or_true, true_or, lve_i, lve_r, lve_l, lve_0, List.replicate_succ, List.replicate_zero, mX, mX9_faultOf, hG.o 3 9 rfl rfl, ↓asP_h (hG.p 3 0 4 rfl rfl), ↓asP_h (hG.p 3 1 12 rfl rfl), hG.o 12 5 rfl rfl]
  refine ⟨_, _, _, _, rfl, c_start hG (hG.o 12 5 rfl rfl) hL2, ?_⟩
  simp only [↓tX9_faultOf, ↓opPush, ↓opILoad, ↓opLLoad, ↓opALoad, ↓opIStore, ↓opAStore, ↓opLStore, ↓opIInc, ↓opI1, ↓opII, ↓opID, ↓opLL, ↓opLD, ↓opLI, ↓opI2L, ↓opL2I, ↓opLcmp, ↓opDup, ↓opDupX1, ↓opDup2, ↓opPop, ↓opIf1, ↓opIf2, ↓opGoto, ↓opIRet, ↓opZRet, ↓opLRet, ↓opVRet, ↓opGetI, ↓opGetL, ↓opGetR, ↓opPutI, ↓opPutZ, ↓opPutL, ↓opPutR, ↓opIALoad, ↓opBALoad, ↓opZALoad, ↓opLALoad, ↓opAALoad, ↓opIAStore, ↓opZAStore, ↓opLAStore, ↓opALen, ↓opGetS, ↓opGetC, ↓opStrV, ↓opStrC, ↓opCallV, ↓opCallS, ↓opSw, ↓opCopy, ↓opCallT, ↓opBRet, ↓opObjI, ↓opNew, ↓opNewA, ↓opANew, ↓opAAStore, ↓opMNew, ↓opCallI, ↓wp_s, ↓wp_0, ↓popI_c, ↓popL_c, ↓popR_c, ↓pop1_i, ↓pop1_r, ↓ldI_0, ↓ldI_s, ↓ldL_0, ↓ldL_s, ↓ldR_0, ↓ldR_s, ↓stL_0, ↓stL_s, ↓tk_0, ↓tk_s, ↓Kc_s, ↓Kc_n, isS_0, isS_s, asP_c, gi_0, gi_s, noL_0, noL_s, isW_n, isW_i, isW_r, rcv_c, rcvT_c, swK_0, swK_s, catS, or_false, false_or, not_false_eq_true, not_true_eq_false, true_implies, false_implies, and_true, true_and, ↓reduceIte, Nat.reduceAdd, Nat.reduceLT, Nat.reduceLeDiff, Nat.reduceEqDiff, Nat.reduceSub, forall_const, eq_self, and_self, or_true, true_or, show okO (gS G 12) 3 9 from hG.o 3 9 rfl rfl]
  refine ⟨_, _, _, _, rfl, c_clearDraft hG1, ?_⟩
  rw [clD_pI]
  simp only [↓tX9_faultOf, ↓opPush, ↓opILoad, ↓opLLoad, ↓opALoad, ↓opIStore, ↓opAStore, ↓opLStore, ↓opIInc, ↓opI1, ↓opII, ↓opID, ↓opLL, ↓opLD, ↓opLI, ↓opI2L, ↓opL2I, ↓opLcmp, ↓opDup, ↓opDupX1, ↓opDup2, ↓opPop, ↓opIf1, ↓opIf2, ↓opGoto, ↓opIRet, ↓opZRet, ↓opLRet, ↓opVRet, ↓opGetI, ↓opGetL, ↓opGetR, ↓opPutI, ↓opPutZ, ↓opPutL, ↓opPutR, ↓opIALoad, ↓opBALoad, ↓opZALoad, ↓opLALoad, ↓opAALoad, ↓opIAStore, ↓opZAStore, ↓opLAStore, ↓opALen, ↓opGetS, ↓opGetC, ↓opStrV, ↓opStrC, ↓opCallV, ↓opCallS, ↓opSw, ↓opCopy, ↓opCallT, ↓opBRet, ↓opObjI, ↓opNew, ↓opNewA, ↓opANew, ↓opAAStore, ↓opMNew, ↓opCallI, ↓wp_s, ↓wp_0, ↓popI_c, ↓popL_c, ↓popR_c, ↓pop1_i, ↓pop1_r, ↓ldI_0, ↓ldI_s, ↓ldL_0, ↓ldL_s, ↓ldR_0, ↓ldR_s, ↓stL_0, ↓stL_s, ↓tk_0, ↓tk_s, ↓Kc_s, ↓Kc_n, isS_0, isS_s, asP_c, gi_0, gi_s, noL_0, noL_s, isW_n, isW_i, isW_r, rcv_c, rcvT_c, swK_0, swK_s, catS, or_false, false_or, not_false_eq_true, not_true_eq_false, true_implies, false_implies, and_true, true_and, ↓reduceIte, Nat.reduceAdd, Nat.reduceLT, Nat.reduceLeDiff, Nat.reduceEqDiff, Nat.reduceSub, forall_const, eq_self, and_self, or_true, true_or]
  refine fin ?_
  have f12 : ∀ J a F, pI J 12 a F 12 3 = F := fun J a F => pI_3 _ _ _ _
  have f12u : ∀ J a F v, up2 (pI J 12 a F) 7 4 v 12 3 = F := fun J a F v => by rw [up2_ne (by decide), pI_3]
  have f40 : ∀ J a F, pI J 12 a F 4 0 = J 4 0 := fun J a F => by rw [pI_ne (by decide)]
  have last : ∀ a F, F = tfF L I → a = nxA (I 2) L (tfS L I).2.1 (tfS L I).2.2 → Ex E (d + 7) mX9_faultOf (fun a b c => a = some (.int (tfF L I)) ∧ b = gS G 12 ∧ c = tfI L I) 78 [some (.ref 3), some (.ref 2), some (.int (nI L)), none, none] [] (0, 0) (gS G 12) (pI (tfS L I).1 12 a F) := by
    intro a F hF ha
    subst hF ha
    refine Ex.run TX9_faultOf [] 60 ?_
    simp only [↓tX9_faultOf, ↓opPush, ↓opILoad, ↓opLLoad, ↓opALoad, ↓opIStore, ↓opAStore, ↓opLStore, ↓opIInc, ↓opI1, ↓opII, ↓opID, ↓opLL, ↓opLD, ↓opLI, ↓opI2L, ↓opL2I, ↓opLcmp, ↓opDup, ↓opDupX1, ↓opDup2, ↓opPop, ↓opIf1, ↓opIf2, ↓opGoto, ↓opIRet, ↓opZRet, ↓opLRet, ↓opVRet, ↓opGetI, ↓opGetL, ↓opGetR, ↓opPutI, ↓opPutZ, ↓opPutL, ↓opPutR, ↓opIALoad, ↓opBALoad, ↓opZALoad, ↓opLALoad, ↓opAALoad, ↓opIAStore, ↓opZAStore, ↓opLAStore, ↓opALen, ↓opGetS, ↓opGetC, ↓opStrV, ↓opStrC, ↓opCallV, ↓opCallS, ↓opSw, ↓opCopy, ↓opCallT, ↓opBRet, ↓opObjI, ↓opNew, ↓opNewA, ↓opANew, ↓opAAStore, ↓opMNew, ↓opCallI, ↓wp_s, ↓wp_0, ↓popI_c, ↓popL_c, ↓popR_c, ↓pop1_i, ↓pop1_r, ↓ldI_0, ↓ldI_s, ↓ldL_0, ↓ldL_s, ↓ldR_0, ↓ldR_s, ↓stL_0, ↓stL_s, ↓tk_0, ↓tk_s, ↓Kc_s, ↓Kc_n, isS_0, isS_s, asP_c, gi_0, gi_s, noL_0, noL_s, isW_n, isW_i, isW_r, rcv_c, rcvT_c, swK_0, swK_s, catS, or_false, false_or, not_false_eq_true, not_true_eq_false, true_implies, false_implies, and_true, true_and, ↓reduceIte, Nat.reduceAdd, Nat.reduceLT, Nat.reduceLeDiff, Nat.reduceEqDiff, Nat.reduceSub, forall_const, eq_self, and_self, or_true, true_or, show okO (gS G 12) 3 9 from hG.o 3 9 rfl rfl, ↓asP_h (hG1.p 3 0 4 rfl rfl), ↓asP_h (hG1.p 3 1 12 rfl rfl), ↓asP_h (hG1.p 4 5 7 rfl rfl), hG1.o 12 5 rfl rfl, hG1.o 4 8 rfl rfl, hG1.o 7 6 rfl rfl, f12u, f40]
    unfold tfI
    rw [up2_pI (by decide)]
    rfl
  refine Ex.run TX9_faultOf [78] 60 ?_
  simp only [↓tX9_faultOf, ↓opPush, ↓opILoad, ↓opLLoad, ↓opALoad, ↓opIStore, ↓opAStore, ↓opLStore, ↓opIInc, ↓opI1, ↓opII, ↓opID, ↓opLL, ↓opLD, ↓opLI, ↓opI2L, ↓opL2I, ↓opLcmp, ↓opDup, ↓opDupX1, ↓opDup2, ↓opPop, ↓opIf1, ↓opIf2, ↓opGoto, ↓opIRet, ↓opZRet, ↓opLRet, ↓opVRet, ↓opGetI, ↓opGetL, ↓opGetR, ↓opPutI, ↓opPutZ, ↓opPutL, ↓opPutR, ↓opIALoad, ↓opBALoad, ↓opZALoad, ↓opLALoad, ↓opAALoad, ↓opIAStore, ↓opZAStore, ↓opLAStore, ↓opALen, ↓opGetS, ↓opGetC, ↓opStrV, ↓opStrC, ↓opCallV, ↓opCallS, ↓opSw, ↓opCopy, ↓opCallT, ↓opBRet, ↓opObjI, ↓opNew, ↓opNewA, ↓opANew, ↓opAAStore, ↓opMNew, ↓opCallI, ↓wp_s, ↓wp_0, ↓popI_c, ↓popL_c, ↓popR_c, ↓pop1_i, ↓pop1_r, ↓ldI_0, ↓ldI_s, ↓ldL_0, ↓ldL_s, ↓ldR_0, ↓ldR_s, ↓stL_0, ↓stL_s, ↓tk_0, ↓tk_s, ↓Kc_s, ↓Kc_n, isS_0, isS_s, asP_c, gi_0, gi_s, noL_0, noL_s, isW_n, isW_i, isW_r, rcv_c, rcvT_c, swK_0, swK_s, catS, or_false, false_or, not_false_eq_true, not_true_eq_false, true_implies, false_implies, and_true, true_and, ↓reduceIte, Nat.reduceAdd, Nat.reduceLT, Nat.reduceLeDiff, Nat.reduceEqDiff, Nat.reduceSub, forall_const, eq_self, and_self, or_true, true_or, show okO (gS G 12) 3 9 from hG.o 3 9 rfl rfl, ↓asP_h (hG1.p 3 1 12 rfl rfl), hG1.o 12 5 rfl rfl]
  refine ⟨_, _, _, _, rfl, hnx, ?_⟩
  simp only [↓tX9_faultOf, ↓opPush, ↓opILoad, ↓opLLoad, ↓opALoad, ↓opIStore, ↓opAStore, ↓opLStore, ↓opIInc, ↓opI1, ↓opII, ↓opID, ↓opLL, ↓opLD, ↓opLI, ↓opI2L, ↓opL2I, ↓opLcmp, ↓opDup, ↓opDupX1, ↓opDup2, ↓opPop, ↓opIf1, ↓opIf2, ↓opGoto, ↓opIRet, ↓opZRet, ↓opLRet, ↓opVRet, ↓opGetI, ↓opGetL, ↓opGetR, ↓opPutI, ↓opPutZ, ↓opPutL, ↓opPutR, ↓opIALoad, ↓opBALoad, ↓opZALoad, ↓opLALoad, ↓opAALoad, ↓opIAStore, ↓opZAStore, ↓opLAStore, ↓opALen, ↓opGetS, ↓opGetC, ↓opStrV, ↓opStrC, ↓opCallV, ↓opCallS, ↓opSw, ↓opCopy, ↓opCallT, ↓opBRet, ↓opObjI, ↓opNew, ↓opNewA, ↓opANew, ↓opAAStore, ↓opMNew, ↓opCallI, ↓wp_s, ↓wp_0, ↓popI_c, ↓popL_c, ↓popR_c, ↓pop1_i, ↓pop1_r, ↓ldI_0, ↓ldI_s, ↓ldL_0, ↓ldL_s, ↓ldR_0, ↓ldR_s, ↓stL_0, ↓stL_s, ↓tk_0, ↓tk_s, ↓Kc_s, ↓Kc_n, isS_0, isS_s, asP_c, gi_0, gi_s, noL_0, noL_s, isW_n, isW_i, isW_r, rcv_c, rcvT_c, swK_0, swK_s, catS, or_false, false_or, not_false_eq_true, not_true_eq_false, true_implies, false_implies, and_true, true_and, ↓reduceIte, Nat.reduceAdd, Nat.reduceLT, Nat.reduceLeDiff, Nat.reduceEqDiff, Nat.reduceSub, forall_const, eq_self, and_self, or_true, true_or, show okO (gS G 12) 3 9 from hG.o 3 9 rfl rfl, ↓asP_h (hG1.p 3 1 12 rfl rfl), hG1.o 12 5 rfl rfl, ↓asP_h (hG1.p 3 0 4 rfl rfl), hG1.o 4 8 rfl rfl]
  refine ⟨fun c => ?_, fun c => ?_⟩
  · refine ⟨_, _, _, _, rfl, hwh, ?_⟩
    simp only [hw2]
    simp only [↓tX9_faultOf, ↓opPush, ↓opILoad, ↓opLLoad, ↓opALoad, ↓opIStore, ↓opAStore, ↓opLStore, ↓opIInc, ↓opI1, ↓opII, ↓opID, ↓opLL, ↓opLD, ↓opLI, ↓opI2L, ↓opL2I, ↓opLcmp, ↓opDup, ↓opDupX1, ↓opDup2, ↓opPop, ↓opIf1, ↓opIf2, ↓opGoto, ↓opIRet, ↓opZRet, ↓opLRet, ↓opVRet, ↓opGetI, ↓opGetL, ↓opGetR, ↓opPutI, ↓opPutZ, ↓opPutL, ↓opPutR, ↓opIALoad, ↓opBALoad, ↓opZALoad, ↓opLALoad, ↓opAALoad, ↓opIAStore, ↓opZAStore, ↓opLAStore, ↓opALen, ↓opGetS, ↓opGetC, ↓opStrV, ↓opStrC, ↓opCallV, ↓opCallS, ↓opSw, ↓opCopy, ↓opCallT, ↓opBRet, ↓opObjI, ↓opNew, ↓opNewA, ↓opANew, ↓opAAStore, ↓opMNew, ↓opCallI, ↓wp_s, ↓wp_0, ↓popI_c, ↓popL_c, ↓popR_c, ↓pop1_i, ↓pop1_r, ↓ldI_0, ↓ldI_s, ↓ldL_0, ↓ldL_s, ↓ldR_0, ↓ldR_s, ↓stL_0, ↓stL_s, ↓tk_0, ↓tk_s, ↓Kc_s, ↓Kc_n, isS_0, isS_s, asP_c, gi_0, gi_s, noL_0, noL_s, isW_n, isW_i, isW_r, rcv_c, rcvT_c, swK_0, swK_s, catS, or_false, false_or, not_false_eq_true, not_true_eq_false, true_implies, false_implies, and_true, true_and, ↓reduceIte, Nat.reduceAdd, Nat.reduceLT, Nat.reduceLeDiff, Nat.reduceEqDiff, Nat.reduceSub, forall_const, eq_self, and_self, or_true, true_or, bInt_0, show okO (gS G 12) 3 9 from hG.o 3 9 rfl rfl, ↓asP_h (hG1.p 3 1 12 rfl rfl), hG1.o 12 5 rfl rfl]
    refine ⟨fun c2 => ?_, fun c2 => ?_⟩
    · refine ⟨_, _, _, _, rfl, c_wrong hs _ _, ?_⟩
      simp only [↓tX9_faultOf, ↓opPush, ↓opILoad, ↓opLLoad, ↓opALoad, ↓opIStore, ↓opAStore, ↓opLStore, ↓opIInc, ↓opI1, ↓opII, ↓opID, ↓opLL, ↓opLD, ↓opLI, ↓opI2L, ↓opL2I, ↓opLcmp, ↓opDup, ↓opDupX1, ↓opDup2, ↓opPop, ↓opIf1, ↓opIf2, ↓opGoto, ↓opIRet, ↓opZRet, ↓opLRet, ↓opVRet, ↓opGetI, ↓opGetL, ↓opGetR, ↓opPutI, ↓opPutZ, ↓opPutL, ↓opPutR, ↓opIALoad, ↓opBALoad, ↓opZALoad, ↓opLALoad, ↓opAALoad, ↓opIAStore, ↓opZAStore, ↓opLAStore, ↓opALen, ↓opGetS, ↓opGetC, ↓opStrV, ↓opStrC, ↓opCallV, ↓opCallS, ↓opSw, ↓opCopy, ↓opCallT, ↓opBRet, ↓opObjI, ↓opNew, ↓opNewA, ↓opANew, ↓opAAStore, ↓opMNew, ↓opCallI, ↓wp_s, ↓wp_0, ↓popI_c, ↓popL_c, ↓popR_c, ↓pop1_i, ↓pop1_r, ↓ldI_0, ↓ldI_s, ↓ldL_0, ↓ldL_s, ↓ldR_0, ↓ldR_s, ↓stL_0, ↓stL_s, ↓tk_0, ↓tk_s, ↓Kc_s, ↓Kc_n, isS_0, isS_s, asP_c, gi_0, gi_s, noL_0, noL_s, isW_n, isW_i, isW_r, rcv_c, rcvT_c, swK_0, swK_s, catS, or_false, false_or, not_false_eq_true, not_true_eq_false, true_implies, false_implies, and_true, true_and, ↓reduceIte, Nat.reduceAdd, Nat.reduceLT, Nat.reduceLeDiff, Nat.reduceEqDiff, Nat.reduceSub, forall_const, eq_self, and_self, or_true, true_or]
      refine last _ _ ?_ rfl
      unfold tfF
      rw [if_neg (fun q => c2 q.2)]
    · refine last _ _ ?_ rfl
      unfold tfF
      rw [if_pos ⟨c, Decidable.not_not.mp c2⟩]
  · refine ⟨_, _, _, _, rfl, c_wrong hs _ _, ?_⟩
    simp only [↓tX9_faultOf, ↓opPush, ↓opILoad, ↓opLLoad, ↓opALoad, ↓opIStore, ↓opAStore, ↓opLStore, ↓opIInc, ↓opI1, ↓opII, ↓opID, ↓opLL, ↓opLD, ↓opLI, ↓opI2L, ↓opL2I, ↓opLcmp, ↓opDup, ↓opDupX1, ↓opDup2, ↓opPop, ↓opIf1, ↓opIf2, ↓opGoto, ↓opIRet, ↓opZRet, ↓opLRet, ↓opVRet, ↓opGetI, ↓opGetL, ↓opGetR, ↓opPutI, ↓opPutZ, ↓opPutL, ↓opPutR, ↓opIALoad, ↓opBALoad, ↓opZALoad, ↓opLALoad, ↓opAALoad, ↓opIAStore, ↓opZAStore, ↓opLAStore, ↓opALen, ↓opGetS, ↓opGetC, ↓opStrV, ↓opStrC, ↓opCallV, ↓opCallS, ↓opSw, ↓opCopy, ↓opCallT, ↓opBRet, ↓opObjI, ↓opNew, ↓opNewA, ↓opANew, ↓opAAStore, ↓opMNew, ↓opCallI, ↓wp_s, ↓wp_0, ↓popI_c, ↓popL_c, ↓popR_c, ↓pop1_i, ↓pop1_r, ↓ldI_0, ↓ldI_s, ↓ldL_0, ↓ldL_s, ↓ldR_0, ↓ldR_s, ↓stL_0, ↓stL_s, ↓tk_0, ↓tk_s, ↓Kc_s, ↓Kc_n, isS_0, isS_s, asP_c, gi_0, gi_s, noL_0, noL_s, isW_n, isW_i, isW_r, rcv_c, rcvT_c, swK_0, swK_s, catS, or_false, false_or, not_false_eq_true, not_true_eq_false, true_implies, false_implies, and_true, true_and, ↓reduceIte, Nat.reduceAdd, Nat.reduceLT, Nat.reduceLeDiff, Nat.reduceEqDiff, Nat.reduceSub, forall_const, eq_self, and_self, or_true, true_or]
    refine last _ _ ?_ rfl
    unfold tfF
    rw [if_neg (fun q => c q.1)]
end
