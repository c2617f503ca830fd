/-! ===== GrudgeTown: what is reckoned apart ===== -/
theorem hw_congr {a b c e : Nat → Int32} {p : Int32} (h1 : ∀ k, k < 12 → a k = b k) (h2 : ∀ k, k < 12 → c k = e k) : hwF a c p = hwF b e p := foldN_congr fun k x hk => by
  unfold hwS
  rw [h1 k hk, h2 k hk]
theorem eqS_hw {V W : SV} (h : eqS V W) {r : Nat} (h1 : 1 ≤ r) (h4 : r ≤ 4) (p : Int32) : hwF (V 3) (V r) p = hwF (W 3) (W r) p := hw_congr (fun k hk => eqS_row h (by decide) (by decide) hk) (fun k hk => eqS_row h h1 h4 hk)
theorem low_congr {a b : Nat → Int32} : ∀ n k, (∀ j, k ≤ j → j < k + n → a j = b j) → lowF a n k = lowF b n k
  | 0, _, _ => rfl
  | n + 1, k, h => by
    unfold lowF
    rw [h k (Nat.le_refl _) (by omega), low_congr n (k + 1) (fun j h1 h2 => h j (by omega) (by omega))]
theorem eqS_low {V W : SV} (h : eqS V W) : lowF (V 3) 12 0 = lowF (W 3) 12 0 := low_congr 12 0 (fun j _ h2 => eqS_row h (by decide) (by decide) (by omega))
theorem eqS_wgt {I : IM} {V W : SV} (h : eqS V W) (p q : Int32) : wgt I V p q = wgt I W p q := by
  unfold wgt
  rw [eqS_hw h (r := 2) (by decide) (by decide), eqS_hw h (r := 1) (by decide) (by decide), h 0 4 (Or.inl ⟨rfl, Or.inl rfl⟩), h 0 6 (Or.inl ⟨rfl, Or.inr (Or.inr rfl)⟩)]
theorem eqS_off {V W : SV} (h : eqS V W) (k : Nat) (p q w : Int32) : eqS (offV V k p q w) (offV W k p q w) := fun r j hr => by
  unfold offV
  rw [h 0 4 (Or.inl ⟨rfl, Or.inl rfl⟩)]
  by_cases e : r = 0
  · subst e
    simp only [if_true]
    by_cases e4 : j = 4
    · rw [if_pos e4, if_pos e4]
    · rw [if_neg e4, if_neg e4]
      exact h 0 j hr
  · simp only [e, if_false]
    rw [h r j hr]
theorem eqS_fg {V W : SV} (h : eqS V W) (p q : Int32) : eqS (fgV p q V) (fgV p q W) := fun r k hk => by
  unfold fgV upr
  by_cases e : r = 3
  · subst e
    have hk2 : k < 12 := by unfold inSt at hk; omega
    simp only [if_true]
    rw [eqS_row h (r := 1) (by decide) (by decide) hk2, eqS_row h (r := 2) (by decide) (by decide) hk2, eqS_row h (r := 3) (by decide) (by decide) hk2]
  · simp only [e, if_false]
    exact h r k hk
/-- the laws, the told people: what a weight reads beside a State -/
theorem wgt_frame {I J : IM} (h : ∀ b, b < 34 → J b = I b) {V : SV} {p q : Int32} (hL : LawOK I) : wgt J V p q = wgt I V p q := by
  unfold wgt lawW
  rw [h 27 (by decide), h 16 (by decide), h 17 (by decide), h 33 (by decide)]
  by_cases c : I 27 6 = -1
  · rw [if_pos c, if_pos c]
  · obtain ⟨told, ht, h5, h6, -⟩ := hL
    obtain ⟨k, hk, e⟩ := h6.resolve_left c
    rw [if_neg c, if_neg c, e, nI_clamp (by omega), h (29 + k) (by omega)]
theorem LawOK.frame {I J : IM} (h : ∀ b, b < 34 → b ≠ 27 → J b = I b) (h5 : J 27 5 = I 27 5) (h6 : J 27 6 = I 27 6) (hL : LawOK I) : LawOK J := by
  obtain ⟨told, ht, g5, g6, hl⟩ := hL
  refine ⟨told, ht, by rw [h5]; exact g5, by rw [h6]; exact g6, fun k hk => ?_⟩
  obtain ⟨len, q1, q2, q3⟩ := hl k hk
  exact ⟨len, q1, by rw [h 33 (by decide) (by decide)]; exact q2, by rw [h (29 + k) (by omega) (by omega)]; exact q3⟩
theorem LawOK.X {I J : IM} (h : eqX I J) (hL : LawOK I) : LawOK J := hL.frame (fun b hb hb2 => h.row (by omega) (by omega) hb2) (h 27 5 (by decide)) (h 27 6 (by decide))
theorem LawOK.put {I : IM} {i : Nat} {V : SV} (hi : 36 ≤ i) (hL : LawOK I) : LawOK (putS I i V) := hL.frame (fun b hb _ => putS_far (by omega)) (by rw [putS_far (by omega)]) (by rw [putS_far (by omega)])
/-- how long one stays: n sunsets more, i gone by -/
def stV (f p : Int32) : Nat → Nat → SV → Nat × SV
  | 0, i, V => (i, V)
  | n + 1, i, V => if inT (sunF f V 0 4) p then stV f p n (i + 1) (sunF f V) else (i, sunF f V)
def asV (f w : Int32) : Nat → SV → Bool × SV
  | 0, V => (true, V)
  | n + 1, V => if sunF f V 0 4 &&& w = w then (if sunR f V = 0 then (true, sunF f V) else asV f w n (sunF f V)) else (false, sunF f V)
def chV (I : IM) (V : SV) (p q c : Int32) : SV := if c = 1 then (if lowF (V 3) 12 0 = -1 ∨ ¬ inT (V 0 4) q then V else offV V (lowF (V 3) 12 0).toNatClampNeg p q (wgt I V p q)) else if c = 2 then fgV p q V else V
section
variable {E : EV} {d : Nat} {G : GD} {I : IM}
theorem sun_put {i : Nat} (hS : isSt G i) (V : SV) (f : Int32) : Run E (d + 2) mX6_sunset [.ref i, .int f] (0, 0) G (putS I i V) (some (.int (sunR f V))) G (putS I i (sunF f V)) := by
  have h := c_sunset (E := E) (d := d) (I := putS I i V) hS f
  rw [eqS_sunR getS_putS, putS_putS, putS_congr (eqS_sun getS_putS)] at h
  exact h
theorem isIn_put {i : Nat} (hS : isSt G i) (V : SV) (p : Int32) : Run E d mX6_isIn [.ref i, .int p] (0, 0) G (putS I i V) (some (.int (bInt (inT (V 0 4) p)))) G (putS I i V) := by
  have h := c_isIn (E := E) (d := d) (I := putS I i V) hS p
  simp only [putS_0 (Or.inl rfl)] at h
  exact h
set_option maxRecDepth 100000 in
set_option maxHeartbeats 4000000 in
theorem c_sunsetsOf (hG : GTs G) {i m : Nat} (hS : isSt G i) (hi : 36 ≤ i) (hm : m < 2 ^ 31) (V : SV) (p : Int32) : Run E (d + 3) mX10_sunsetsOf [.ref 0, .ref i, .int p, .int (nI m)] (0, 0) G (putS I i V) (some (.int (if inT (V 0 4) p then nI (stV (I 15 2) p m 0 V).1 else 0))) G (putS I i (if inT (V 0 4) p then (stV (I 15 2) p m 0 V).2 else V)) := by
  have f15 : ∀ W, putS I i W 15 = I 15 := fun W => putS_far (by omega)
  by_cases c : inT (V 0 4) p
  · rw [if_pos c, if_pos c]
    have key : ∀ (n j : Nat) (W : SV), j + n = m → Ex E (d + 3) mX10_sunsetsOf (fun a b c => a = some (.int (nI (stV (I 15 2) p n j W).1)) ∧ b = G ∧ c = putS I i (stV (I 15 2) p n j W).2) 13 [some (.ref 0), some (.ref i), some (.int p), some (.int (nI m)), some (.int (nI j))] [] (0, 0) G (putS I i W) := by
      intro n
      induction n with
      | zero =>
        intro j W hj
        refine Ex.run TX10_sunsetsOf [13] 60 ?_
        simp only [↓tX10_sunsetsOf, ↓opPush, ↓opILoad, ↓opLLoad, ↓opALoad, ↓opIStore, ↓opAStore, ↓opLStore, ↓opIInc, ↓opI1, ↓opII, ↓opID, ↓opLL, ↓opLD, ↓opLI, ↓opI2L, ↓opL2I, ↓opLcmp, ↓opDup, ↓opDupX1, ↓opDup2, ↓opPop, ↓opIf1, ↓opIf2, ↓opGoto, ↓opIRet, ↓opZRet, ↓opLRet, ↓opVRet, ↓opGetI, ↓opGetL, ↓opGetR, ↓opPutI, ↓opPutZ, ↓opPutL, ↓opPutR, ↓opIALoad, ↓opBALoad, ↓opZALoad, ↓opLALoad, ↓opAALoad, ↓opIAStore, ↓opZAStore, ↓opLAStore, ↓opALen, ↓opGetS, ↓opGetC, ↓opStrV, ↓opStrC, ↓opCallV, ↓opCallS, ↓opSw, ↓opCopy, ↓opCallT, ↓opBRet, ↓opObjI, ↓opNew, ↓opNewA, ↓opANew, ↓opAAStore, ↓opMNew, ↓opCallI, ↓wp_s, ↓wp_0, ↓popI_c, ↓popL_c, ↓popR_c, ↓pop1_i, ↓pop1_r, ↓ldI_0, ↓ldI_s, ↓ldL_0, ↓ldL_s, ↓ldR_0, ↓ldR_s, ↓stL_0, ↓stL_s, ↓tk_0, ↓tk_s, ↓Kc_s, ↓Kc_n, isS_0, isS_s, asP_c, gi_0, gi_s, noL_0, noL_s, isW_n, isW_i, isW_r, rcv_c, rcvT_c, swK_0, swK_s, catS, or_false, false_or, not_false_eq_true, not_true_eq_false, true_implies, false_implies, and_true, true_and, ↓reduceIte, Nat.reduceAdd, Nat.reduceLT, Nat.reduceLeDiff, Nat.reduceEqDiff, Nat.reduceSub, forall_const, eq_self, and_self, or_true, true_or, show j = m by omega, Int32.le_refl]
        exact ⟨by rw [show m = j by omega]; rfl, rfl⟩
      | succ n ih =>
        intro j W hj
        refine Ex.run TX10_sunsetsOf [13] 60 ?_
        simp only [↓tX10_sunsetsOf, ↓opPush, ↓opILoad, ↓opLLoad, ↓opALoad, ↓opIStore, ↓opAStore, ↓opLStore, ↓opIInc, ↓opI1, ↓opII, ↓opID, ↓opLL, ↓opLD, ↓opLI, ↓opI2L, ↓opL2I, ↓opLcmp, ↓opDup, ↓opDupX1, ↓opDup2, ↓opPop, ↓opIf1, ↓opIf2, ↓opGoto, ↓opIRet, ↓opZRet, ↓opLRet, ↓opVRet, ↓opGetI, ↓opGetL, ↓opGetR, ↓opPutI, ↓opPutZ, ↓opPutL, ↓opPutR, ↓opIALoad, ↓opBALoad, ↓opZALoad, ↓opLALoad, ↓opAALoad, ↓opIAStore, ↓opZAStore, ↓opLAStore, ↓opALen, ↓opGetS, ↓opGetC, ↓opStrV, ↓opStrC, ↓opCallV, ↓opCallS, ↓opSw, ↓opCopy, ↓opCallT, ↓opBRet, ↓opObjI, ↓opNew, ↓opNewA, ↓opANew, ↓opAAStore, ↓opMNew, ↓opCallI, ↓wp_s, ↓wp_0, ↓popI_c, ↓popL_c, ↓popR_c, ↓pop1_i, ↓pop1_r, ↓ldI_0, ↓ldI_s, ↓ldL_0, ↓ldL_s, ↓ldR_0, ↓ldR_s, ↓stL_0, ↓stL_s, ↓tk_0, ↓tk_s, ↓Kc_s, ↓Kc_n, isS_0, isS_s, asP_c, gi_0, gi_s, noL_0, noL_s, isW_n, isW_i, isW_r, rcv_c, rcvT_c, swK_0, swK_s, catS, or_false, false_or, not_false_eq_true, not_true_eq_false, true_implies, false_implies, and_true, true_and, ↓reduceIte, Nat.reduceAdd, Nat.reduceLT, Nat.reduceLeDiff, Nat.reduceEqDiff, Nat.reduceSub, forall_const, eq_self, and_self, or_true, true_or, eq_false (nI_ge (a := j) (b := m) (by omega) (by omega)), hG.o 0 10 rfl rfl, ↓asP_h (hG.p 0 2 15 rfl rfl), hG.o 15 8 rfl rfl, ↓asP_h (hG.p 15 3 16 rfl rfl), hG.o 16 100 rfl rfl, (hG.o 16 100 rfl rfl).A, hG.l 16 5 rfl rfl, ↓asP_h (hG.p 15 4 17 rfl rfl), hG.o 17 100 rfl rfl, (hG.o 17 100 rfl rfl).A, hG.l 17 5 rfl rfl, ↓asP_h (hG.p 15 5 18 rfl rfl), hS.1, f15]
        refine ⟨_, _, _, _, rfl, sun_put hS _ _, ?_⟩
        simp only [↓tX10_sunsetsOf, ↓opPush, ↓opILoad, ↓opLLoad, ↓opALoad, ↓opIStore, ↓opAStore, ↓opLStore, ↓opIInc, ↓opI1, ↓opII, ↓opID, ↓opLL, ↓opLD, ↓opLI, ↓opI2L, ↓opL2I, ↓opLcmp, ↓opDup, ↓opDupX1, ↓opDup2, ↓opPop, ↓opIf1, ↓opIf2, ↓opGoto, ↓opIRet, ↓opZRet, ↓opLRet, ↓opVRet, ↓opGetI, ↓opGetL, ↓opGetR, ↓opPutI, ↓opPutZ, ↓opPutL, ↓opPutR, ↓opIALoad, ↓opBALoad, ↓opZALoad, ↓opLALoad, ↓opAALoad, ↓opIAStore, ↓opZAStore, ↓opLAStore, ↓opALen, ↓opGetS, ↓opGetC, ↓opStrV, ↓opStrC, ↓opCallV, ↓opCallS, ↓opSw, ↓opCopy, ↓opCallT, ↓opBRet, ↓opObjI, ↓opNew, ↓opNewA, ↓opANew, ↓opAAStore, ↓opMNew, ↓opCallI, ↓wp_s, ↓wp_0, ↓popI_c, ↓popL_c, ↓popR_c, ↓pop1_i, ↓pop1_r, ↓ldI_0, ↓ldI_s, ↓ldL_0, ↓ldL_s, ↓ldR_0, ↓ldR_s, ↓stL_0, ↓stL_s, ↓tk_0, ↓tk_s, ↓Kc_s, ↓Kc_n, isS_0, isS_s, asP_c, gi_0, gi_s, noL_0, noL_s, isW_n, isW_i, isW_r, rcv_c, rcvT_c, swK_0, swK_s, catS, or_false, false_or, not_false_eq_true, not_true_eq_false, true_implies, false_implies, and_true, true_and, ↓reduceIte, Nat.reduceAdd, Nat.reduceLT, Nat.reduceLeDiff, Nat.reduceEqDiff, Nat.reduceSub, forall_const, eq_self, and_self, or_true, true_or, hS.1]
        refine ⟨_, _, _, _, rfl, isIn_put hS _ _, ?_⟩
        simp only [↓tX10_sunsetsOf, ↓opPush, ↓opILoad, ↓opLLoad, ↓opALoad, ↓opIStore, ↓opAStore, ↓opLStore, ↓opIInc, ↓opI1, ↓opII, ↓opID, ↓opLL, ↓opLD, ↓opLI, ↓opI2L, ↓opL2I, ↓opLcmp, ↓opDup, ↓opDupX1, ↓opDup2, ↓opPop, ↓opIf1, ↓opIf2, ↓opGoto, ↓opIRet, ↓opZRet, ↓opLRet, ↓opVRet, ↓opGetI, ↓opGetL, ↓opGetR, ↓opPutI, ↓opPutZ, ↓opPutL, ↓opPutR, ↓opIALoad, ↓opBALoad, ↓opZALoad, ↓opLALoad, ↓opAALoad, ↓opIAStore, ↓opZAStore, ↓opLAStore, ↓opALen, ↓opGetS, ↓opGetC, ↓opStrV, ↓opStrC, ↓opCallV, ↓opCallS, ↓opSw, ↓opCopy, ↓opCallT, ↓opBRet, ↓opObjI, ↓opNew, ↓opNewA, ↓opANew, ↓opAAStore, ↓opMNew, ↓opCallI, ↓wp_s, ↓wp_0, ↓popI_c, ↓popL_c, ↓popR_c, ↓pop1_i, ↓pop1_r, ↓ldI_0, ↓ldI_s, ↓ldL_0, ↓ldL_s, ↓ldR_0, ↓ldR_s, ↓stL_0, ↓stL_s, ↓tk_0, ↓tk_s, ↓Kc_s, ↓Kc_n, isS_0, isS_s, asP_c, gi_0, gi_s, noL_0, noL_s, isW_n, isW_i, isW_r, rcv_c, rcvT_c, swK_0, swK_s, catS, or_false, false_or, not_false_eq_true, not_true_eq_false, true_implies, false_implies, and_true, true_and, ↓reduceIte, Nat.reduceAdd, Nat.reduceLT, Nat.reduceLeDiff, Nat.reduceEqDiff, Nat.reduceSub, forall_const, eq_self, and_self, or_true, true_or, bInt_0]
        refine ⟨fun c => ?_, fun c => ?_⟩
        · unfold stV; rw [if_neg c]; exact ⟨rfl, rfl⟩
        · have h := ih (j + 1) (sunF (I 15 2) W) (by omega)
          unfold stV
          rw [if_pos (Decidable.not_not.mp c)]
          rw [nI_succ] at h
          exact h
    refine Ct.run okX10_sunsetsOf TX10_sunsetsOf [13] 60 rfl rfl ?_
    simp only [↓tX10_sunsetsOf, ↓opPush, ↓opILoad, ↓opLLoad, ↓opALoad, ↓opIStore, ↓opAStore, ↓opLStore, ↓opIInc, ↓opI1, ↓opII, ↓opID, ↓opLL, ↓opLD, ↓opLI, ↓opI2L, ↓opL2I, ↓opLcmp, ↓opDup, ↓opDupX1, ↓opDup2, ↓opPop, ↓opIf1, ↓opIf2, ↓opGoto, ↓opIRet, ↓opZRet, ↓opLRet, ↓opVRet, ↓opGetI, ↓opGetL, ↓opGetR, ↓opPutI, ↓opPutZ, ↓opPutL, ↓opPutR, ↓opIALoad, ↓opBALoad, ↓opZALoad, ↓opLALoad, ↓opAALoad, ↓opIAStore, ↓opZAStore, ↓opLAStore, ↓opALen, ↓opGetS, ↓opGetC, ↓opStrV, ↓opStrC, ↓opCallV, ↓opCallS, ↓opSw, ↓opCopy, ↓opCallT, ↓opBRet, ↓opObjI, ↓opNew, ↓opNewA, ↓opANew, ↓opAAStore, ↓opMNew, ↓opCallI, ↓wp_s, ↓wp_0, ↓popI_c, ↓popL_c, ↓popR_c, ↓pop1_i, ↓pop1_r, ↓ldI_0, ↓ldI_s, ↓ldL_0, ↓ldL_s, ↓ldR_0, ↓ldR_s, ↓stL_0, ↓stL_s, ↓tk_0, ↓tk_s, ↓Kc_s, ↓Kc_n, isS_0, isS_s, asP_c, gi_0, gi_s, noL_0, noL_s, isW_n, isW_i, isW_r, rcv_c, rcvT_c, swK_0, swK_s, catS, or_false, false_or, not_false_eq_true, not_true_eq_false, true_implies, false_implies, and_true, true_and, ↓reduceIte, Nat.reduceAdd, Nat.reduceLT, Nat.reduceLeDiff, Nat.reduceEqDiff, Nat.reduceSub, forall_const, eq_self, and_self, or_true, true_or, lve_i, lve_r, lve_l, lve_0, List.replicate_succ, List.replicate_zero, mX, mX10_sunsetsOf, hS.1]
    refine ⟨_, _, _, _, rfl, isIn_put hS _ _, ?_⟩
    rw [bInt_t c]
    simp only [↓tX10_sunsetsOf, ↓opPush, ↓opILoad, ↓opLLoad, ↓opALoad, ↓opIStore, ↓opAStore, ↓opLStore, ↓opIInc, ↓opI1, ↓opII, ↓opID, ↓opLL, ↓opLD, ↓opLI, ↓opI2L, ↓opL2I, ↓opLcmp, ↓opDup, ↓opDupX1, ↓opDup2, ↓opPop, ↓opIf1, ↓opIf2, ↓opGoto, ↓opIRet, ↓opZRet, ↓opLRet, ↓opVRet, ↓opGetI, ↓opGetL, ↓opGetR, ↓opPutI, ↓opPutZ, ↓opPutL, ↓opPutR, ↓opIALoad, ↓opBALoad, ↓opZALoad, ↓opLALoad, ↓opAALoad, ↓opIAStore, ↓opZAStore, ↓opLAStore, ↓opALen, ↓opGetS, ↓opGetC, ↓opStrV, ↓opStrC, ↓opCallV, ↓opCallS, ↓opSw, ↓opCopy, ↓opCallT, ↓opBRet, ↓opObjI, ↓opNew, ↓opNewA, ↓opANew, ↓opAAStore, ↓opMNew, ↓opCallI, ↓wp_s, ↓wp_0, ↓popI_c, ↓popL_c, ↓popR_c, ↓pop1_i, ↓pop1_r, ↓ldI_0, ↓ldI_s, ↓ldL_0, ↓ldL_s, ↓ldR_0, ↓ldR_s, ↓stL_0, ↓stL_s, ↓tk_0, ↓tk_s, ↓Kc_s, ↓Kc_n, isS_0, isS_s, asP_c, gi_0, gi_s, noL_0, noL_s, isW_n, isW_i, isW_r, rcv_c, rcvT_c, swK_0, swK_s, catS, or_false, false_or, not_false_eq_true, not_true_eq_false, true_implies, false_implies, and_true, true_and, ↓reduceIte, Nat.reduceAdd, Nat.reduceLT, Nat.reduceLeDiff, Nat.reduceEqDiff, Nat.reduceSub, forall_const, eq_self, and_self, or_true, true_or, show ¬ (1 : Int32) = 0 by decide]
    exact key m 0 V (by omega)
  · rw [if_neg c, if_neg c]
    refine Ct.run okX10_sunsetsOf TX10_sunsetsOf [13] 60 rfl rfl ?_
    simp only [↓tX10_sunsetsOf, ↓opPush, ↓opILoad, ↓opLLoad, ↓opALoad, ↓opIStore, ↓opAStore, ↓opLStore, ↓opIInc, ↓opI1, ↓opII, ↓opID, ↓opLL, ↓opLD, ↓opLI, ↓opI2L, ↓opL2I, ↓opLcmp, ↓opDup, ↓opDupX1, ↓opDup2, ↓opPop, ↓opIf1, ↓opIf2, ↓opGoto, ↓opIRet, ↓opZRet, ↓opLRet, ↓opVRet, ↓opGetI, ↓opGetL, ↓opGetR, ↓opPutI, ↓opPutZ, ↓opPutL, ↓opPutR, ↓opIALoad, ↓opBALoad, ↓opZALoad, ↓opLALoad, ↓opAALoad, ↓opIAStore, ↓opZAStore, ↓opLAStore, ↓opALen, ↓opGetS, ↓opGetC, ↓opStrV, ↓opStrC, ↓opCallV, ↓opCallS, ↓opSw, ↓opCopy, ↓opCallT, ↓opBRet, ↓opObjI, ↓opNew, ↓opNewA, ↓opANew, ↓opAAStore, ↓opMNew, ↓opCallI, ↓wp_s, ↓wp_0, ↓popI_c, ↓popL_c, ↓popR_c, ↓pop1_i, ↓pop1_r, ↓ldI_0, ↓ldI_s, ↓ldL_0, ↓ldL_s, ↓ldR_0, ↓ldR_s, ↓stL_0, ↓stL_s, ↓tk_0, ↓tk_s, ↓Kc_s, ↓Kc_n, isS_0, isS_s, asP_c, gi_0, gi_s, noL_0, noL_s, isW_n, isW_i, isW_r, rcv_c, rcvT_c, swK_0, swK_s, catS, or_false, false_or, not_false_eq_true, not_true_eq_false, true_implies, false_implies, and_true, true_and, ↓reduceIte, Nat.reduceAdd, Nat.reduceLT, Nat.reduceLeDiff, Nat.reduceEqDiff, Nat.reduceSub, forall_const, eq_self, and_self, or_true, true_or, lve_i, lve_r, lve_l, lve_0, List.replicate_succ, List.replicate_zero, mX, mX10_sunsetsOf, hS.1]
    refine ⟨_, _, _, _, rfl, isIn_put hS _ _, ?_⟩
    rw [bInt_f c]
    simp only [↓tX10_sunsetsOf, ↓opPush, ↓opILoad, ↓opLLoad, ↓opALoad, ↓opIStore, ↓opAStore, ↓opLStore, ↓opIInc, ↓opI1, ↓opII, ↓opID, ↓opLL, ↓opLD, ↓opLI, ↓opI2L, ↓opL2I, ↓opLcmp, ↓opDup, ↓opDupX1, ↓opDup2, ↓opPop, ↓opIf1, ↓opIf2, ↓opGoto, ↓opIRet, ↓opZRet, ↓opLRet, ↓opVRet, ↓opGetI, ↓opGetL, ↓opGetR, ↓opPutI, ↓opPutZ, ↓opPutL, ↓opPutR, ↓opIALoad, ↓opBALoad, ↓opZALoad, ↓opLALoad, ↓opAALoad, ↓opIAStore, ↓opZAStore, ↓opLAStore, ↓opALen, ↓opGetS, ↓opGetC, ↓opStrV, ↓opStrC, ↓opCallV, ↓opCallS, ↓opSw, ↓opCopy, ↓opCallT, ↓opBRet, ↓opObjI, ↓opNew, ↓opNewA, ↓opANew, ↓opAAStore, ↓opMNew, ↓opCallI, ↓wp_s, ↓wp_0, ↓popI_c, ↓popL_c, ↓popR_c, ↓pop1_i, ↓pop1_r, ↓ldI_0, ↓ldI_s, ↓ldL_0, ↓ldL_s, ↓ldR_0, ↓ldR_s, ↓stL_0, ↓stL_s, ↓tk_0, ↓tk_s, ↓Kc_s, ↓Kc_n, isS_0, isS_s, asP_c, gi_0, gi_s, noL_0, noL_s, isW_n, isW_i, isW_r, rcv_c, rcvT_c, swK_0, swK_s, catS, or_false, false_or, not_false_eq_true, not_true_eq_false, true_implies, false_implies, and_true, true_and, ↓reduceIte, Nat.reduceAdd, Nat.reduceLT, Nat.reduceLeDiff, Nat.reduceEqDiff, Nat.reduceSub, forall_const, eq_self, and_self, or_true, true_or]
set_option maxRecDepth 100000 in
set_option maxHeartbeats 4000000 in
theorem c_allStay (hG : GTs G) {i m : Nat} (hS : isSt G i) (hi : 36 ≤ i) (hm : m < 2 ^ 31) (V : SV) (w : Int32) : Run E (d + 3) mX10_allStay [.ref 0, .ref i, .int w, .int (nI m)] (0, 0) G (putS I i V) (some (.int (bInt ((V 0 4 &&& w = w) ∧ (asV (I 15 2) w m V).1 = true)))) G (putS I i (if V 0 4 &&& w = w then (asV (I 15 2) w m V).2 else V)) := by
  have f15 : ∀ W, putS I i W 15 = I 15 := fun W => putS_far (by omega)
  have f0 : ∀ W, putS I i W i 4 = W 0 4 := fun W => putS_0 (Or.inl rfl)
  by_cases c : V 0 4 &&& w = w
  · rw [if_pos c]
    have key : ∀ (n j : Nat) (W : SV), j + n = m → Ex E (d + 3) mX10_allStay (fun a b c => a = some (.int (bInt ((asV (I 15 2) w n W).1 = true))) ∧ b = G ∧ c = putS I i (asV (I 15 2) w n W).2) 15 [some (.ref 0), some (.ref i), some (.int w), some (.int (nI m)), some (.int (nI j)), none] [] (0, 0) G (putS I i W) := by
      intro n
      induction n with
      | zero =>
        intro j W hj
        refine Ex.run TX10_allStay [15] 60 ?_
        simp only [↓tX10_allStay, ↓opPush, ↓opILoad, ↓opLLoad, ↓opALoad, ↓opIStore, ↓opAStore, ↓opLStore, ↓opIInc, ↓opI1, ↓opII, ↓opID, ↓opLL, ↓opLD, ↓opLI, ↓opI2L, ↓opL2I, ↓opLcmp, ↓opDup, ↓opDupX1, ↓opDup2, ↓opPop, ↓opIf1, ↓opIf2, ↓opGoto, ↓opIRet, ↓opZRet, ↓opLRet, ↓opVRet, ↓opGetI, ↓opGetL, ↓opGetR, ↓opPutI, ↓opPutZ, ↓opPutL, ↓opPutR, ↓opIALoad, ↓opBALoad, ↓opZALoad, ↓opLALoad, ↓opAALoad, ↓opIAStore, ↓opZAStore, ↓opLAStore, ↓opALen, ↓opGetS, ↓opGetC, ↓opStrV, ↓opStrC, ↓opCallV, ↓opCallS, ↓opSw, ↓opCopy, ↓opCallT, ↓opBRet, ↓opObjI, ↓opNew, ↓opNewA, ↓opANew, ↓opAAStore, ↓opMNew, ↓opCallI, ↓wp_s, ↓wp_0, ↓popI_c, ↓popL_c, ↓popR_c, ↓pop1_i, ↓pop1_r, ↓ldI_0, ↓ldI_s, ↓ldL_0, ↓ldL_s, ↓ldR_0, ↓ldR_s, ↓stL_0, ↓stL_s, ↓tk_0, ↓tk_s, ↓Kc_s, ↓Kc_n, isS_0, isS_s, asP_c, gi_0, gi_s, noL_0, noL_s, isW_n, isW_i, isW_r, rcv_c, rcvT_c, swK_0, swK_s, catS, or_false, false_or, not_false_eq_true, not_true_eq_false, true_implies, false_implies, and_true, true_and, ↓reduceIte, Nat.reduceAdd, Nat.reduceLT, Nat.reduceLeDiff, Nat.reduceEqDiff, Nat.reduceSub, forall_const, eq_self, and_self, or_true, true_or, show j = m by omega, Int32.le_refl]
        exact ⟨by rw [bInt_t (by rfl)], rfl⟩
      | succ n ih =>
        intro j W hj
        refine Ex.run TX10_allStay [15] 60 ?_
        simp only [↓tX10_allStay, ↓opPush, ↓opILoad, ↓opLLoad, ↓opALoad, ↓opIStore, ↓opAStore, ↓opLStore, ↓opIInc, ↓opI1, ↓opII, ↓opID, ↓opLL, ↓opLD, ↓opLI, ↓opI2L, ↓opL2I, ↓opLcmp, ↓opDup, ↓opDupX1, ↓opDup2, ↓opPop, ↓opIf1, ↓opIf2, ↓opGoto, ↓opIRet, ↓opZRet, ↓opLRet, ↓opVRet, ↓opGetI, ↓opGetL, ↓opGetR, ↓opPutI, ↓opPutZ, ↓opPutL, ↓opPutR, ↓opIALoad, ↓opBALoad, ↓opZALoad, ↓opLALoad, ↓opAALoad, ↓opIAStore, ↓opZAStore, ↓opLAStore, ↓opALen, ↓opGetS, ↓opGetC, ↓opStrV, ↓opStrC, ↓opCallV, ↓opCallS, ↓opSw, ↓opCopy, ↓opCallT, ↓opBRet, ↓opObjI, ↓opNew, ↓opNewA, ↓opANew, ↓opAAStore, ↓opMNew, ↓opCallI, ↓wp_s, ↓wp_0, ↓popI_c, ↓popL_c, ↓popR_c, ↓pop1_i, ↓pop1_r, ↓ldI_0, ↓ldI_s, ↓ldL_0, ↓ldL_s, ↓ldR_0, ↓ldR_s, ↓stL_0, ↓stL_s, ↓tk_0, ↓tk_s, ↓Kc_s, ↓Kc_n, isS_0, isS_s, asP_c, gi_0, gi_s, noL_0, noL_s, isW_n, isW_i, isW_r, rcv_c, rcvT_c, swK_0, swK_s, catS, or_false, false_or, not_false_eq_true, not_true_eq_false, true_implies, false_implies, and_true, true_and, ↓reduceIte, Nat.reduceAdd, Nat.reduceLT, Nat.reduceLeDiff, Nat.reduceEqDiff, Nat.reduceSub, forall_const, eq_self, and_self, or_true, true_or, eq_false (nI_ge (a := j) (b := m) (by omega) (by omega)), hG.o 0 10 rfl rfl, ↓asP_h (hG.p 0 2 15 rfl rfl), hG.o 15 8 rfl rfl, ↓asP_h (hG.p 15 3 16 rfl rfl), hG.o 16 100 rfl rfl, (hG.o 16 100 rfl rfl).A, hG.l 16 5 rfl rfl, ↓asP_h (hG.p 15 4 17 rfl rfl), hG.o 17 100 rfl rfl, (hG.o 17 100 rfl rfl).A, hG.l 17 5 rfl rfl, ↓asP_h (hG.p 15 5 18 rfl rfl), hS.1, f15]
        refine ⟨_, _, _, _, rfl, sun_put hS _ _, ?_⟩
        simp only [↓tX10_allStay, ↓opPush, ↓opILoad, ↓opLLoad, ↓opALoad, ↓opIStore, ↓opAStore, ↓opLStore, ↓opIInc, ↓opI1, ↓opII, ↓opID, ↓opLL, ↓opLD, ↓opLI, ↓opI2L, ↓opL2I, ↓opLcmp, ↓opDup, ↓opDupX1, ↓opDup2, ↓opPop, ↓opIf1, ↓opIf2, ↓opGoto, ↓opIRet, ↓opZRet, ↓opLRet, ↓opVRet, ↓opGetI, ↓opGetL, ↓opGetR, ↓opPutI, ↓opPutZ, ↓opPutL, ↓opPutR, ↓opIALoad, ↓opBALoad, ↓opZALoad, ↓opLALoad, ↓opAALoad, ↓opIAStore, ↓opZAStore, ↓opLAStore, ↓opALen, ↓opGetS, ↓opGetC, ↓opStrV, ↓opStrC, ↓opCallV, ↓opCallS, ↓opSw, ↓opCopy, ↓opCallT, ↓opBRet, ↓opObjI, ↓opNew, ↓opNewA, ↓opANew, ↓opAAStore, ↓opMNew, ↓opCallI, ↓wp_s, ↓wp_0, ↓popI_c, ↓popL_c, ↓popR_c, ↓pop1_i, ↓pop1_r, ↓ldI_0, ↓ldI_s, ↓ldL_0, ↓ldL_s, ↓ldR_0, ↓ldR_s, ↓stL_0, ↓stL_s, ↓tk_0, ↓tk_s, ↓Kc_s, ↓Kc_n, isS_0, isS_s, asP_c, gi_0, gi_s, noL_0, noL_s, isW_n, isW_i, isW_r, rcv_c, rcvT_c, swK_0, swK_s, catS, or_false, false_or, not_false_eq_true, not_true_eq_false, true_implies, false_implies, and_true, true_and, ↓reduceIte, Nat.reduceAdd, Nat.reduceLT, Nat.reduceLeDiff, Nat.reduceEqDiff, Nat.reduceSub, forall_const, eq_self, and_self, or_true, true_or, hS.1, f0]
        refine ⟨fun c1 => ⟨fun c2 => ?_, fun c2 => ?_⟩, fun c1 => ?_⟩
        · unfold asV; rw [if_pos c1, if_pos c2, bInt_t (by rfl)]; exact ⟨rfl, rfl⟩
        · have h := ih (j + 1) (sunF (I 15 2) W) (by omega)
          unfold asV
          rw [if_pos c1, if_neg c2]
          rw [nI_succ] at h
          exact h.weak ⟨rfl, rfl, rfl, rfl, rfl, trivial⟩
        · unfold asV; rw [if_neg c1, bInt_f (by simp)]; exact ⟨rfl, rfl⟩
    refine Ct.run okX10_allStay TX10_allStay [15] 60 rfl rfl ?_
    simp only [↓tX10_allStay, ↓opPush, ↓opILoad, ↓opLLoad, ↓opALoad, ↓opIStore, ↓opAStore, ↓opLStore, ↓opIInc, ↓opI1, ↓opII, ↓opID, ↓opLL, ↓opLD, ↓opLI, ↓opI2L, ↓opL2I, ↓opLcmp, ↓opDup, ↓opDupX1, ↓opDup2, ↓opPop, ↓opIf1, ↓opIf2, ↓opGoto, ↓opIRet, ↓opZRet, ↓opLRet, ↓opVRet, ↓opGetI, ↓opGetL, ↓opGetR, ↓opPutI, ↓opPutZ, ↓opPutL, ↓opPutR, ↓opIALoad, ↓opBALoad, ↓opZALoad, ↓opLALoad, ↓opAALoad, ↓opIAStore, ↓opZAStore, ↓opLAStore, ↓opALen, ↓opGetS, ↓opGetC, ↓opStrV, ↓opStrC, ↓opCallV, ↓opCallS, ↓opSw, ↓opCopy, ↓opCallT, ↓opBRet, ↓opObjI, ↓opNew, ↓opNewA, ↓opANew, ↓opAAStore, ↓opMNew, ↓opCallI, ↓wp_s, ↓wp_0, ↓popI_c, ↓popL_c, ↓popR_c, ↓pop1_i, ↓pop1_r, ↓ldI_0, ↓ldI_s, ↓ldL_0, ↓ldL_s, ↓ldR_0, ↓ldR_s, ↓stL_0, ↓stL_s, ↓tk_0, ↓tk_s, ↓Kc_s, ↓Kc_n, isS_0, isS_s, asP_c, gi_0, gi_s, noL_0, noL_s, isW_n, isW_i, isW_r, rcv_c, rcvT_c, swK_0, swK_s, catS, or_false, false_or, not_false_eq_true, not_true_eq_false, true_implies, false_implies, and_true, true_and, ↓reduceIte, Nat.reduceAdd, Nat.reduceLT, Nat.reduceLeDiff, Nat.reduceEqDiff, Nat.reduceSub, forall_const, eq_self, and_self, or_true, true_or, lve_i, lve_r, lve_l, lve_0, List.replicate_succ, List.replicate_zero, mX, mX10_allStay, hS.1, f0, c]
    refine (key m 0 V (by omega)).mono (fun r G' I' h => ?_)
    obtain ⟨rfl, rfl, rfl⟩ := h
    refine ⟨?_, rfl, rfl⟩
    by_cases e : (asV (I 15 2) w m V).1 = true
    · rw [bInt_t e]
    · rw [bInt_f e]
  · rw [if_neg c, bInt_f (fun q => c q.1)]
    refine Ct.run okX10_allStay TX10_allStay [15] 60 rfl rfl ?_
    simp only [↓tX10_allStay, ↓opPush, ↓opILoad, ↓opLLoad, ↓opALoad, ↓opIStore, ↓opAStore, ↓opLStore, ↓opIInc, ↓opI1, ↓opII, ↓opID, ↓opLL, ↓opLD, ↓opLI, ↓opI2L, ↓opL2I, ↓opLcmp, ↓opDup, ↓opDupX1, ↓opDup2, ↓opPop, ↓opIf1, ↓opIf2, ↓opGoto, ↓opIRet, ↓opZRet, ↓opLRet, ↓opVRet, ↓opGetI, ↓opGetL, ↓opGetR, ↓opPutI, ↓opPutZ, ↓opPutL, ↓opPutR, ↓opIALoad, ↓opBALoad, ↓opZALoad, ↓opLALoad, ↓opAALoad, ↓opIAStore, ↓opZAStore, ↓opLAStore, ↓opALen, ↓opGetS, ↓opGetC, ↓opStrV, ↓opStrC, ↓opCallV, ↓opCallS, ↓opSw, ↓opCopy, ↓opCallT, ↓opBRet, ↓opObjI, ↓opNew, ↓opNewA, ↓opANew, ↓opAAStore, ↓opMNew, ↓opCallI, ↓wp_s, ↓wp_0, ↓popI_c, ↓popL_c, ↓popR_c, ↓pop1_i, ↓pop1_r, ↓ldI_0, ↓ldI_s, ↓ldL_0, ↓ldL_s, ↓ldR_0, ↓ldR_s, ↓stL_0, ↓stL_s, ↓tk_0, ↓tk_s, ↓Kc_s, ↓Kc_n, isS_0, isS_s, asP_c, gi_0, gi_s, noL_0, noL_s, isW_n, isW_i, isW_r, rcv_c, rcvT_c, swK_0, swK_s, catS, or_false, false_or, not_false_eq_true, not_true_eq_false, true_implies, false_implies, and_true, true_and, ↓reduceIte, Nat.reduceAdd, Nat.reduceLT, Nat.reduceLeDiff, Nat.reduceEqDiff, Nat.reduceSub, forall_const, eq_self, and_self, or_true, true_or, lve_i, lve_r, lve_l, lve_0, List.replicate_succ, List.replicate_zero, mX, mX10_allStay, hS.1, f0, c]
theorem off_put (hG : GTs G) (hL : LawOK I) {i : Nat} (hS : isSt G i) (hi : 36 ≤ i) (V : SV) {p q : Int32} (hp : vp_in p 5) (hq : vp_in q 5) :
    ∃ J, eqX I J ∧ Run E (d + 4) mX10_offend [.ref 0, .ref i, .int p, .int q] (0, 0) G (putS I i V) (some (.int (if lowF (V 3) 12 0 = -1 ∨ ¬ inT (V 0 4) q then -1 else lowF (V 3) 12 0))) G (putS J i (if lowF (V 3) 12 0 = -1 ∨ ¬ inT (V 0 4) q then V else offV V (lowF (V 3) 12 0).toNatClampNeg p q (wgt I V p q))) := by
  have hg := getS_putS (I := I) (i := i) (V := V)
  obtain ⟨J, hX, hR⟩ := c_offend (E := E) (d := d) hG (hL.put (V := V) hi) hS hi hp hq
  have e1 : lowF (putS I i V (i + 3)) 12 0 = lowF (V 3) 12 0 := eqS_low hg
  have e2 : putS I i V i 4 = V 0 4 := putS_0 (Or.inl rfl)
  have e3 : wgt (putS I i V) (getS (putS I i V) i) p q = wgt I V p q := by rw [eqS_wgt hg, wgt_frame (fun b hb => putS_far (by omega)) hL]
  rw [e1, e2, e3] at hR
  refine ⟨putS J i (getS I i), fun b k hb => ?_, ?_⟩
  · by_cases h : i ≤ b ∧ inSt (b - i) k
    · obtain ⟨r, rfl⟩ : ∃ r, b = i + r := ⟨b - i, by omega⟩
      rw [Nat.add_sub_cancel_left] at h
      rw [putS_in h.2]
      rfl
    · rw [putS_out h, hX b k hb, putS_out h]
  · rw [putS_putS]
    by_cases c : lowF (V 3) 12 0 = -1 ∨ ¬ inT (V 0 4) q
    · rw [if_pos c, if_pos c] at hR
      rw [if_pos c, if_pos c]
      have : putS J i V = J := putS_eq (fun r k hk => by rw [hX (i + r) k (by omega), putS_in hk]) (fun _ _ _ => rfl)
      rw [this]
      exact hR
    · rw [if_neg c, if_neg c] at hR
      rw [if_neg c, if_neg c]
      rw [putS_congr (eqS_off hg _ p q _)] at hR
      exact hR
set_option maxRecDepth 100000 in
set_option maxHeartbeats 4000000 in
theorem c_choose (hG : GTs G) (hL : LawOK I) {i : Nat} (hS : isSt G i) (hi : 36 ≤ i) (V : SV) {p q : Int32} (hp : vp_in p 5) (hq : vp_in q 5) (c : Int32) :
    ∃ J, eqX I J ∧ Run E (d + 5) mX10_choose [.ref 0, .ref i, .int p, .int q, .int c] (0, 0) G (putS I i V) none G (putS J i (chV I V p q c)) := by
  by_cases c1 : c = 1
  · obtain ⟨J, hX, hR⟩ := off_put (E := E) (d := d) hG hL hS hi V hp hq
    refine ⟨J, hX, ?_⟩
    unfold chV
    rw [if_pos c1]
    refine Ct.run okX10_choose TX10_choose [] 60 rfl rfl ?_
    simp only [↓tX10_choose, ↓opPush, ↓opILoad, ↓opLLoad, ↓opALoad, ↓opIStore, ↓opAStore, ↓opLStore, ↓opIInc, ↓opI1, ↓opII, ↓opID, ↓opLL, ↓opLD, ↓opLI, ↓opI2L, ↓opL2I, ↓opLcmp, ↓opDup, ↓opDupX1, ↓opDup2, ↓opPop, ↓opIf1, ↓opIf2, ↓opGoto, ↓opIRet, ↓opZRet, ↓opLRet, ↓opVRet, ↓opGetI, ↓opGetL, ↓opGetR, ↓opPutI, ↓opPutZ, ↓opPutL, ↓opPutR, ↓opIALoad, ↓opBALoad, ↓opZALoad, ↓opLALoad, ↓opAALoad, ↓opIAStore, ↓opZAStore, ↓opLAStore, ↓opALen, ↓opGetS, ↓opGetC, ↓opStrV, ↓opStrC, ↓opCallV, ↓opCallS, ↓opSw, ↓opCopy, ↓opCallT, ↓opBRet, ↓opObjI, ↓opNew, ↓opNewA, ↓opANew, ↓opAAStore, ↓opMNew, ↓opCallI, ↓wp_s, ↓wp_0, ↓popI_c, ↓popL_c, ↓popR_c, ↓pop1_i, ↓pop1_r, ↓ldI_0, ↓ldI_s, ↓ldL_0, ↓ldL_s, ↓ldR_0, ↓ldR_s, ↓stL_0, ↓stL_s, ↓tk_0, ↓tk_s, ↓Kc_s, ↓Kc_n, isS_0, isS_s, asP_c, gi_0, gi_s, noL_0, noL_s, isW_n, isW_i, isW_r, rcv_c, rcvT_c, swK_0, swK_s, catS, or_false, false_or, not_false_eq_true, not_true_eq_false, true_implies, false_implies, and_true, true_and, ↓reduceIte, Nat.reduceAdd, Nat.reduceLT, Nat.reduceLeDiff, Nat.reduceEqDiff, Nat.reduceSub, forall_const, eq_self, and_self, or_true, true_or, lve_i, lve_r, lve_l, lve_0, List.replicate_succ, List.replicate_zero, mX, mX10_choose, c1, hG.o 0 10 rfl rfl, ↓asP_h (hG.p 0 0 1 rfl rfl), ↓asP_h (hG.p 0 1 3 rfl rfl), ↓asP_h (hG.p 0 2 15 rfl rfl), ↓asP_h (hG.p 0 3 23 rfl rfl), ↓asP_h (hG.p 0 4 27 rfl rfl), ↓asP_h (hG.p 0 5 36 rfl rfl), ↓asP_h (hG.p 0 6 41 rfl rfl), ↓asP_h (hG.p 0 7 45 rfl rfl), ↓asP_h (hG.p 0 8 247 rfl rfl), ↓asP_h (hG.p 0 9 252 rfl rfl), ↓asP_h (hG.p 0 10 256 rfl rfl), ↓asP_h (hG.p 0 11 262 rfl rfl), hG.o 262 100 rfl rfl, (hG.o 262 100 rfl rfl).A, hG.l 262 5 rfl rfl, ↓asP_h (hG.p 0 12 263 rfl rfl), hG.o 263 104 rfl rfl, hG.l 263 9 rfl rfl, ↓asP_h (hG.p 0 13 264 rfl rfl), hG.o 264 100 rfl rfl, (hG.o 264 100 rfl rfl).A, hG.l 264 9 rfl rfl, ↓asP_h (hG.p 0 14 265 rfl rfl), hG.o 265 100 rfl rfl, (hG.o 265 100 rfl rfl).A, hG.l 265 9 rfl rfl]
    refine ⟨_, _, _, _, rfl, hR, ?_⟩
    simp only [↓tX10_choose, ↓opPush, ↓opILoad, ↓opLLoad, ↓opALoad, ↓opIStore, ↓opAStore, ↓opLStore, ↓opIInc, ↓opI1, ↓opII, ↓opID, ↓opLL, ↓opLD, ↓opLI, ↓opI2L, ↓opL2I, ↓opLcmp, ↓opDup, ↓opDupX1, ↓opDup2, ↓opPop, ↓opIf1, ↓opIf2, ↓opGoto, ↓opIRet, ↓opZRet, ↓opLRet, ↓opVRet, ↓opGetI, ↓opGetL, ↓opGetR, ↓opPutI, ↓opPutZ, ↓opPutL, ↓opPutR, ↓opIALoad, ↓opBALoad, ↓opZALoad, ↓opLALoad, ↓opAALoad, ↓opIAStore, ↓opZAStore, ↓opLAStore, ↓opALen, ↓opGetS, ↓opGetC, ↓opStrV, ↓opStrC, ↓opCallV, ↓opCallS, ↓opSw, ↓opCopy, ↓opCallT, ↓opBRet, ↓opObjI, ↓opNew, ↓opNewA, ↓opANew, ↓opAAStore, ↓opMNew, ↓opCallI, ↓wp_s, ↓wp_0, ↓popI_c, ↓popL_c, ↓popR_c, ↓pop1_i, ↓pop1_r, ↓ldI_0, ↓ldI_s, ↓ldL_0, ↓ldL_s, ↓ldR_0, ↓ldR_s, ↓stL_0, ↓stL_s, ↓tk_0, ↓tk_s, ↓Kc_s, ↓Kc_n, isS_0, isS_s, asP_c, gi_0, gi_s, noL_0, noL_s, isW_n, isW_i, isW_r, rcv_c, rcvT_c, swK_0, swK_s, catS, or_false, false_or, not_false_eq_true, not_true_eq_false, true_implies, false_implies, and_true, true_and, ↓reduceIte, Nat.reduceAdd, Nat.reduceLT, Nat.reduceLeDiff, Nat.reduceEqDiff, Nat.reduceSub, forall_const, eq_self, and_self, or_true, true_or]
  · by_cases c2 : c = 2
    · refine ⟨I, eqX.rf, ?_⟩
      unfold chV
      rw [if_neg c1, if_pos c2]
      refine Ct.run okX10_choose TX10_choose [] 60 rfl rfl ?_
      simp only [↓tX10_choose, ↓opPush, ↓opILoad, ↓opLLoad, ↓opALoad, ↓opIStore, ↓opAStore, ↓opLStore, ↓opIInc, ↓opI1, ↓opII, ↓opID, ↓opLL, ↓opLD, ↓opLI, ↓opI2L, ↓opL2I, ↓opLcmp, ↓opDup, ↓opDupX1, ↓opDup2, ↓opPop, ↓opIf1, ↓opIf2, ↓opGoto, ↓opIRet, ↓opZRet, ↓opLRet, ↓opVRet, ↓opGetI, ↓opGetL, ↓opGetR, ↓opPutI, ↓opPutZ, ↓opPutL, ↓opPutR, ↓opIALoad, ↓opBALoad, ↓opZALoad, ↓opLALoad, ↓opAALoad, ↓opIAStore, ↓opZAStore, ↓opLAStore, ↓opALen, ↓opGetS, ↓opGetC, ↓opStrV, ↓opStrC, ↓opCallV, ↓opCallS, ↓opSw, ↓opCopy, ↓opCallT, ↓opBRet, ↓opObjI, ↓opNew, ↓opNewA, ↓opANew, ↓opAAStore, ↓opMNew, ↓opCallI, ↓wp_s, ↓wp_0, ↓popI_c, ↓popL_c, ↓popR_c, ↓pop1_i, ↓pop1_r, ↓ldI_0, ↓ldI_s, ↓ldL_0, ↓ldL_s, ↓ldR_0, ↓ldR_s, ↓stL_0, ↓stL_s, ↓tk_0, ↓tk_s, ↓Kc_s, ↓Kc_n, isS_0, isS_s, asP_c, gi_0, gi_s, noL_0, noL_s, isW_n, isW_i, isW_r, rcv_c, rcvT_c, swK_0, swK_s, catS, or_false, false_or, not_false_eq_true, not_true_eq_false, true_implies, false_implies, and_true, true_and, ↓reduceIte, Nat.reduceAdd, Nat.reduceLT, Nat.reduceLeDiff, Nat.reduceEqDiff, Nat.reduceSub, forall_const, eq_self, and_self, or_true, true_or, lve_i, lve_r, lve_l, lve_0, List.replicate_succ, List.replicate_zero, mX, mX10_choose, c2, hS.1, show ¬ (2 : Int32) = 1 by decide]
      refine ⟨_, _, _, _, rfl, c_forgiveAll hS _ _, ?_⟩
      simp only [↓tX10_choose, ↓opPush, ↓opILoad, ↓opLLoad, ↓opALoad, ↓opIStore, ↓opAStore, ↓opLStore, ↓opIInc, ↓opI1, ↓opII, ↓opID, ↓opLL, ↓opLD, ↓opLI, ↓opI2L, ↓opL2I, ↓opLcmp, ↓opDup, ↓opDupX1, ↓opDup2, ↓opPop, ↓opIf1, ↓opIf2, ↓opGoto, ↓opIRet, ↓opZRet, ↓opLRet, ↓opVRet, ↓opGetI, ↓opGetL, ↓opGetR, ↓opPutI, ↓opPutZ, ↓opPutL, ↓opPutR, ↓opIALoad, ↓opBALoad, ↓opZALoad, ↓opLALoad, ↓opAALoad, ↓opIAStore, ↓opZAStore, ↓opLAStore, ↓opALen, ↓opGetS, ↓opGetC, ↓opStrV, ↓opStrC, ↓opCallV, ↓opCallS, ↓opSw, ↓opCopy, ↓opCallT, ↓opBRet, ↓opObjI, ↓opNew, ↓opNewA, ↓opANew, ↓opAAStore, ↓opMNew, ↓opCallI, ↓wp_s, ↓wp_0, ↓popI_c, ↓popL_c, ↓popR_c, ↓pop1_i, ↓pop1_r, ↓ldI_0, ↓ldI_s, ↓ldL_0, ↓ldL_s, ↓ldR_0, ↓ldR_s, ↓stL_0, ↓stL_s, ↓tk_0, ↓tk_s, ↓Kc_s, ↓Kc_n, isS_0, isS_s, asP_c, gi_0, gi_s, noL_0, noL_s, isW_n, isW_i, isW_r, rcv_c, rcvT_c, swK_0, swK_s, catS, or_false, false_or, not_false_eq_true, not_true_eq_false, true_implies, false_implies, and_true, true_and, ↓reduceIte, Nat.reduceAdd, Nat.reduceLT, Nat.reduceLeDiff, Nat.reduceEqDiff, Nat.reduceSub, forall_const, eq_self, and_self, or_true, true_or]
      rw [putS_putS, putS_congr (eqS_fg getS_putS p q)]
    · refine ⟨I, eqX.rf, ?_⟩
      unfold chV
      rw [if_neg c1, if_neg c2]
      refine Ct.run okX10_choose TX10_choose [] 60 rfl rfl ?_
      simp only [↓tX10_choose, ↓opPush, ↓opILoad, ↓opLLoad, ↓opALoad, ↓opIStore, ↓opAStore, ↓opLStore, ↓opIInc, ↓opI1, ↓opII, ↓opID, ↓opLL, ↓opLD, ↓opLI, ↓opI2L, ↓opL2I, ↓opLcmp, ↓opDup, ↓opDupX1, ↓opDup2, ↓opPop, ↓opIf1, ↓opIf2, ↓opGoto, ↓opIRet, ↓opZRet, ↓opLRet, ↓opVRet, ↓opGetI, ↓opGetL, ↓opGetR, ↓opPutI, ↓opPutZ, ↓opPutL, ↓opPutR, ↓opIALoad, ↓opBALoad, ↓opZALoad, ↓opLALoad, ↓opAALoad, ↓opIAStore, ↓opZAStore, ↓opLAStore, ↓opALen, ↓opGetS, ↓opGetC, ↓opStrV, ↓opStrC, ↓opCallV, ↓opCallS, ↓opSw, ↓opCopy, ↓opCallT, ↓opBRet, ↓opObjI, ↓opNew, ↓opNewA, ↓opANew, ↓opAAStore, ↓opMNew, ↓opCallI, ↓wp_s, ↓wp_0, ↓popI_c, ↓popL_c, ↓popR_c, ↓pop1_i, ↓pop1_r, ↓ldI_0, ↓ldI_s, ↓ldL_0, ↓ldL_s, ↓ldR_0, ↓ldR_s, ↓stL_0, ↓stL_s, ↓tk_0, ↓tk_s, ↓Kc_s, ↓Kc_n, isS_0, isS_s, asP_c, gi_0, gi_s, noL_0, noL_s, isW_n, isW_i, isW_r, rcv_c, rcvT_c, swK_0, swK_s, catS, or_false, false_or, not_false_eq_true, not_true_eq_false, true_implies, false_implies, and_true, true_and, ↓reduceIte, Nat.reduceAdd, Nat.reduceLT, Nat.reduceLeDiff, Nat.reduceEqDiff, Nat.reduceSub, forall_const, eq_self, and_self, or_true, true_or, lve_i, lve_r, lve_l, lve_0, List.replicate_succ, List.replicate_zero, mX, mX10_choose, c1, c2]
end
