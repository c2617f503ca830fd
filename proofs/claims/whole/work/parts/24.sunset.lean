/-! ===== GrudgeTown$State: clear, passOnWilled, sunset ===== -/
def hrV (V : SV) (q : Nat) : Int32 := V 0 4 &&& (bitI (V 2 q) ^^^ -1)
abbrev pwC (g : Int32) (V : SV) (q : Nat) : Prop := ¬ V 3 q ≤ 0 ∧ V 4 q = 2 ∧ inT g (V 1 q)
def pw3 (g : Int32) (V : SV) (q : Nat) : Int32 := if pwC g V q ∧ hrV V q = 0 then 0 else V 3 q
def pw1 (g : Int32) (V : SV) (q : Nat) : Int32 := if pwC g V q ∧ ¬ hrV V q = 0 then ntzI (hrV V q) else V 1 q
def passF (g : Int32) (V : SV) : SV := upr (upr V 3 (pw3 g V)) 1 (pw1 g V)
def suS (f : Int32) (V : SV) (k : Nat) (a : Int32) : Int32 := if V 3 k ≤ 0 then a else if wbf (V 3 k) (V 4 k) f ≤ 0 then a else if inT (V 0 4) (V 1 k) then a ||| bitI (V 2 k) else a
def scS (f : Int32) (V : SV) (k : Nat) (c : Int32) : Int32 := if V 3 k ≤ 0 then c else if c = 0 then (if wbf (V 3 k) (V 4 k) f = V 3 k then 0 else 1) else 1
def suF (f : Int32) (V : SV) : Int32 := foldN (suS f V) 12 0
def scF (f : Int32) (V : SV) : Int32 := foldN (scS f V) 12 0
def goF (f : Int32) (V : SV) : Int32 := V 0 4 &&& (suF f V ^^^ -1)
def fdW (f : Int32) (V : SV) (q : Nat) : Int32 := if V 3 q ≤ 0 then V 3 q else wbf (V 3 q) (V 4 q) f
def fdV (f : Int32) (V : SV) : SV := upr V 3 (fdW f V)
def sunF (f : Int32) (V : SV) : SV := if goF f V = 0 then fdV f V else passF (goF f V) (up2 (fdV f V) 0 4 (V 0 4 &&& suF f V))
def sunR (f : Int32) (V : SV) : Int32 := if goF f V = 0 then scF f V else 1
theorem eqS_upr {V W : SV} {r : Nat} {g : Nat → Int32} (h : eqS V W) : eqS (upr V r g) (upr W r g) := fun q k hk => by
  unfold upr
  split
  · rfl
  · exact h q k hk
theorem putS_row2 {I : IM} {i : Nat} {g3 g1 : Nat → Int32} : putS I i (upr (upr (getS I i) 3 g3) 1 g1) = rowN (rowN I (i + 3) g3 12) (i + 1) g1 12 := by
  rw [← putS_row (r := 1) (by decide) (by decide), ← putS_row (r := 3) (by decide) (by decide), putS_putS]
  exact putS_congr (eqS_upr getS_putS.symm)
theorem scF_01 (f : Int32) (V : SV) : ∀ n, foldN (scS f V) n 0 = 0 ∨ foldN (scS f V) n 0 = 1
  | 0 => Or.inl rfl
  | n + 1 => by
    rw [foldN_s]
    unfold scS
    split
    · exact scF_01 f V n
    · split
      · split
        · exact Or.inl rfl
        · exact Or.inr rfl
      · exact Or.inr rfl
theorem eqS_up2 {V W : SV} {r j : Nat} {v : Int32} (h : eqS V W) : eqS (up2 V r j v) (up2 W r j v) := fun q k hk => by
  unfold up2
  split
  · split
    · rfl
    · exact h q k hk
  · exact h q k hk
theorem eqS_pass {V W : SV} {g : Int32} (h : eqS V W) : eqS (passF g V) (passF g W) := fun r k hk => by
  have h04 := h 0 4 (Or.inl ⟨rfl, Or.inl rfl⟩)
  by_cases e : r = 0
  · subst e
    unfold passF upr
    simp only [show ¬ (0 : Nat) = 1 by decide, show ¬ (0 : Nat) = 3 by decide, if_false]
    exact h 0 k hk
  · have hk2 : 1 ≤ r ∧ r ≤ 4 ∧ k < 12 := by unfold inSt at hk; omega
    have h1 := h 1 k (inSt_r (by decide) (by decide) hk2.2.2)
    have h2 := h 2 k (inSt_r (by decide) (by decide) hk2.2.2)
    have h3 := h 3 k (inSt_r (by decide) (by decide) hk2.2.2)
    have h4 := h 4 k (inSt_r (by decide) (by decide) hk2.2.2)
    have hr := h r k hk
    unfold passF upr pw1 pw3 pwC hrV
    rw [h04, h1, h2, h3, h4, hr]
section
variable {E : EV} {d : Nat} {G : GD} {I : IM}
set_option maxRecDepth 100000 in
set_option maxHeartbeats 4000000 in
theorem c_pass {i : Nat} (hS : isSt G i) (g : Int32) : Run E (d + 1) mX6_passOnWilled [.ref i, .int g] (0, 0) G I none G (putS I i (passF g (getS I i))) := by
  obtain ⟨h0, h1, h2, h3, h4, a1, a2, a3, a4, l1, l2, l3, l4⟩ := hS
  unfold passF
  rw [putS_row2]
  have hg3 : ∀ k, pw3 g (getS I i) k = if (¬ I (i + 3) k ≤ 0 ∧ I (i + 4) k = 2 ∧ inT g (I (i + 1) k)) ∧ I i 4 &&& (bitI (I (i + 2) k) ^^^ -1) = 0 then 0 else I (i + 3) k := fun _ => rfl
  have hg1 : ∀ k, pw1 g (getS I i) k = if (¬ I (i + 3) k ≤ 0 ∧ I (i + 4) k = 2 ∧ inT g (I (i + 1) k)) ∧ ¬ I i 4 &&& (bitI (I (i + 2) k) ^^^ -1) = 0 then ntzI (I i 4 &&& (bitI (I (i + 2) k) ^^^ -1)) else I (i + 1) k := fun _ => rfl
  generalize pw3 g (getS I i) = g3 at hg3 ⊢
  generalize pw1 g (getS I i) = g1 at hg1 ⊢
  have key : ∀ k, k ≤ 12 → Ex E (d + 1) mX6_passOnWilled (fun a b c => a = none ∧ b = G ∧ c = rowN (rowN I (i + 3) g3 12) (i + 1) g1 12) 2 [some (.ref i), some (.int g), some (.int (nI k)), none] [] (0, 0) G (rowN (rowN I (i + 3) g3 k) (i + 1) g1 k) := by
    refine dn ?_ ?_
    · refine Ex.run TX6_passOnWilled [2] 60 ?_
      simp only [↓tX6_passOnWilled, ↓opPush, ↓opILoad, ↓opLLoad, ↓opALoad, ↓opIStore, ↓opAStore, ↓opLStore, ↓opIInc, ↓opI1, ↓opII, ↓opID, ↓opLL, ↓opLD, ↓opLI, ↓opI2L, ↓opL2I, ↓opLcmp, ↓opDup, ↓opDupX1, ↓opDup2, ↓opPop, ↓opIf1, ↓opIf2, ↓opGoto, ↓opIRet, ↓opZRet, ↓opLRet, ↓opVRet, ↓opGetI, ↓opGetL, ↓opGetR, ↓opPutI, ↓opPutZ, ↓opPutL, ↓opPutR, ↓opIALoad, ↓opBALoad, ↓opZALoad, ↓opLALoad, ↓opAALoad, ↓opIAStore, ↓opZAStore, ↓opLAStore, ↓opALen, ↓opGetS, ↓opGetC, ↓opStrV, ↓opStrC, ↓opCallV, ↓opCallS, ↓opSw, ↓opCopy, ↓opCallT, ↓opBRet, ↓opObjI, ↓opNew, ↓opNewA, ↓opANew, ↓opAAStore, ↓opMNew, ↓opCallI, ↓wp_s, ↓wp_0, ↓popI_c, ↓popL_c, ↓popR_c, ↓pop1_i, ↓pop1_r, ↓ldI_0, ↓ldI_s, ↓ldL_0, ↓ldL_s, ↓ldR_0, ↓ldR_s, ↓stL_0, ↓stL_s, ↓tk_0, ↓tk_s, ↓Kc_s, ↓Kc_n, isS_0, isS_s, asP_c, gi_0, gi_s, noL_0, noL_s, isW_n, isW_i, isW_r, rcv_c, rcvT_c, swK_0, swK_s, catS, or_false, false_or, not_false_eq_true, not_true_eq_false, true_implies, false_implies, and_true, true_and, ↓reduceIte, Nat.reduceAdd, Nat.reduceLT, Nat.reduceLeDiff, Nat.reduceEqDiff, Nat.reduceSub, forall_const, eq_self, and_self, or_true, true_or, lpT (N := 12) (n := 12) rfl]
    · intro k hk ih
      have e1 : (nI k).toNatClampNeg = k := nI_clamp (by omega); have e2 : vp_in (nI k) 12 := vp_in_nI hk (by omega); have e3 := lpF (N := 12) (n := 12) (k := k) rfl hk (by decide)
      have r0 : rowN (rowN I (i + 3) g3 k) (i + 1) g1 k i = I i := by rw [rowN_ne (by omega), rowN_ne (by omega)]
      have r1 : rowN (rowN I (i + 3) g3 k) (i + 1) g1 k (i + 1) k = I (i + 1) k := by rw [rowN_ge (Nat.le_refl k), rowN_ne (by omega)]
      have r2 : rowN (rowN I (i + 3) g3 k) (i + 1) g1 k (i + 2) = I (i + 2) := by rw [rowN_ne (by omega), rowN_ne (by omega)]
      have r3 : rowN (rowN I (i + 3) g3 k) (i + 1) g1 k (i + 3) k = I (i + 3) k := by rw [rowN_ne (by omega), rowN_ge (Nat.le_refl k)]
      have r4 : rowN (rowN I (i + 3) g3 k) (i + 1) g1 k (i + 4) = I (i + 4) := by rw [rowN_ne (by omega), rowN_ne (by omega)]
      have s1 : I (i + 1) k = g1 k → rowN (rowN I (i + 3) g3 (k + 1)) (i + 1) g1 k = rowN (rowN I (i + 3) g3 (k + 1)) (i + 1) g1 (k + 1) := fun h => rowN_same (by rw [rowN_ne (by omega)]; exact h)
      have same : ¬ (¬ I (i + 3) k ≤ 0 ∧ I (i + 4) k = 2 ∧ inT g (I (i + 1) k)) → rowN (rowN I (i + 3) g3 (k + 1)) (i + 1) g1 (k + 1) = rowN (rowN I (i + 3) g3 k) (i + 1) g1 k := fun h => by
        rw [← s1 (by rw [hg1, if_neg (fun q => h q.1)]), ← rowN_same (a := i + 3) (by rw [hg3, if_neg (fun q => h q.1)])]
      refine Ex.run TX6_passOnWilled [2] 60 ?_
      simp only [↓tX6_passOnWilled, ↓opPush, ↓opILoad, ↓opLLoad, ↓opALoad, ↓opIStore, ↓opAStore, ↓opLStore, ↓opIInc, ↓opI1, ↓opII, ↓opID, ↓opLL, ↓opLD, ↓opLI, ↓opI2L, ↓opL2I, ↓opLcmp, ↓opDup, ↓opDupX1, ↓opDup2, ↓opPop, ↓opIf1, ↓opIf2, ↓opGoto, ↓opIRet, ↓opZRet, ↓opLRet, ↓opVRet, ↓opGetI, ↓opGetL, ↓opGetR, ↓opPutI, ↓opPutZ, ↓opPutL, ↓opPutR, ↓opIALoad, ↓opBALoad, ↓opZALoad, ↓opLALoad, ↓opAALoad, ↓opIAStore, ↓opZAStore, ↓opLAStore, ↓opALen, ↓opGetS, ↓opGetC, ↓opStrV, ↓opStrC, ↓opCallV, ↓opCallS, ↓opSw, ↓opCopy, ↓opCallT, ↓opBRet, ↓opObjI, ↓opNew, ↓opNewA, ↓opANew, ↓opAAStore, ↓opMNew, ↓opCallI, ↓wp_s, ↓wp_0, ↓popI_c, ↓popL_c, ↓popR_c, ↓pop1_i, ↓pop1_r, ↓ldI_0, ↓ldI_s, ↓ldL_0, ↓ldL_s, ↓ldR_0, ↓ldR_s, ↓stL_0, ↓stL_s, ↓tk_0, ↓tk_s, ↓Kc_s, ↓Kc_n, isS_0, isS_s, asP_c, gi_0, gi_s, noL_0, noL_s, isW_n, isW_i, isW_r, rcv_c, rcvT_c, swK_0, swK_s, catS, or_false, false_or, not_false_eq_true, not_true_eq_false, true_implies, false_implies, and_true, true_and, ↓reduceIte, Nat.reduceAdd, Nat.reduceLT, Nat.reduceLeDiff, Nat.reduceEqDiff, Nat.reduceSub, forall_const, eq_self, and_self, or_true, true_or, e3, h0, ↓asP_h h1, ↓asP_h h2, ↓asP_h h3, ↓asP_h h4, a1, a2, a3, a4, a1.A, a2.A, a3.A, a4.A, l1, l2, l3, l4, e1, e2, r0, r1, r2, r3, r4]
      refine ⟨fun c1 => ih.to (by simp [nI_succ]) (same (fun q => q.1 c1)), fun c1 => ⟨fun c2 => ⟨fun c3 => ⟨fun c4 => ?_, fun c4 => ?_⟩, fun c3 => ih.to (by simp [nI_succ]) (same (fun q => c3 q.2.2))⟩, fun c2 => ih.to (by simp [nI_succ]) (same (fun q => c2 q.2.1))⟩⟩
      · refine Ex.weak (ih.to (lv' := [some (.ref i), some (.int g), some (.int (nI k + 1)), none]) (by simp [nI_succ]) ?_) ⟨rfl, rfl, rfl, trivial⟩
        rw [up2_row (by omega), rowN_s (by rw [hg3, if_pos ⟨⟨c1, c2, c3⟩, c4⟩]), s1 (by rw [hg1, if_neg (fun q => q.2 c4)])]
      · refine ⟨_, _, _, _, rfl, c_ntz _, ?_⟩
        simp only [↓tX6_passOnWilled, ↓opPush, ↓opILoad, ↓opLLoad, ↓opALoad, ↓opIStore, ↓opAStore, ↓opLStore, ↓opIInc, ↓opI1, ↓opII, ↓opID, ↓opLL, ↓opLD, ↓opLI, ↓opI2L, ↓opL2I, ↓opLcmp, ↓opDup, ↓opDupX1, ↓opDup2, ↓opPop, ↓opIf1, ↓opIf2, ↓opGoto, ↓opIRet, ↓opZRet, ↓opLRet, ↓opVRet, ↓opGetI, ↓opGetL, ↓opGetR, ↓opPutI, ↓opPutZ, ↓opPutL, ↓opPutR, ↓opIALoad, ↓opBALoad, ↓opZALoad, ↓opLALoad, ↓opAALoad, ↓opIAStore, ↓opZAStore, ↓opLAStore, ↓opALen, ↓opGetS, ↓opGetC, ↓opStrV, ↓opStrC, ↓opCallV, ↓opCallS, ↓opSw, ↓opCopy, ↓opCallT, ↓opBRet, ↓opObjI, ↓opNew, ↓opNewA, ↓opANew, ↓opAAStore, ↓opMNew, ↓opCallI, ↓wp_s, ↓wp_0, ↓popI_c, ↓popL_c, ↓popR_c, ↓pop1_i, ↓pop1_r, ↓ldI_0, ↓ldI_s, ↓ldL_0, ↓ldL_s, ↓ldR_0, ↓ldR_s, ↓stL_0, ↓stL_s, ↓tk_0, ↓tk_s, ↓Kc_s, ↓Kc_n, isS_0, isS_s, asP_c, gi_0, gi_s, noL_0, noL_s, isW_n, isW_i, isW_r, rcv_c, rcvT_c, swK_0, swK_s, catS, or_false, false_or, not_false_eq_true, not_true_eq_false, true_implies, false_implies, and_true, true_and, ↓reduceIte, Nat.reduceAdd, Nat.reduceLT, Nat.reduceLeDiff, Nat.reduceEqDiff, Nat.reduceSub, forall_const, eq_self, and_self, or_true, true_or, h0, ↓asP_h h1, ↓asP_h h2, ↓asP_h h3, ↓asP_h h4, a1, a2, a3, a4, a1.A, a2.A, a3.A, a4.A, l1, l2, l3, l4, e1, e2]
        refine Ex.weak (ih.to (lv' := [some (.ref i), some (.int g), some (.int (nI k + 1)), none]) (by simp [nI_succ]) ?_) ⟨rfl, rfl, rfl, trivial⟩
        rw [rowN_s (by rw [hg1, if_pos ⟨⟨c1, c2, c3⟩, c4⟩]; rfl), ← rowN_same (a := i + 3) (by rw [hg3, if_neg (fun q => c4 q.2)])]
  refine Ct.run okX6_passOnWilled TX6_passOnWilled [2] 60 rfl rfl ?_
  simp only [↓tX6_passOnWilled, ↓opPush, ↓opILoad, ↓opLLoad, ↓opALoad, ↓opIStore, ↓opAStore, ↓opLStore, ↓opIInc, ↓opI1, ↓opII, ↓opID, ↓opLL, ↓opLD, ↓opLI, ↓opI2L, ↓opL2I, ↓opLcmp, ↓opDup, ↓opDupX1, ↓opDup2, ↓opPop, ↓opIf1, ↓opIf2, ↓opGoto, ↓opIRet, ↓opZRet, ↓opLRet, ↓opVRet, ↓opGetI, ↓opGetL, ↓opGetR, ↓opPutI, ↓opPutZ, ↓opPutL, ↓opPutR, ↓opIALoad, ↓opBALoad, ↓opZALoad, ↓opLALoad, ↓opAALoad, ↓opIAStore, ↓opZAStore, ↓opLAStore, ↓opALen, ↓opGetS, ↓opGetC, ↓opStrV, ↓opStrC, ↓opCallV, ↓opCallS, ↓opSw, ↓opCopy, ↓opCallT, ↓opBRet, ↓opObjI, ↓opNew, ↓opNewA, ↓opANew, ↓opAAStore, ↓opMNew, ↓opCallI, ↓wp_s, ↓wp_0, ↓popI_c, ↓popL_c, ↓popR_c, ↓pop1_i, ↓pop1_r, ↓ldI_0, ↓ldI_s, ↓ldL_0, ↓ldL_s, ↓ldR_0, ↓ldR_s, ↓stL_0, ↓stL_s, ↓tk_0, ↓tk_s, ↓Kc_s, ↓Kc_n, isS_0, isS_s, asP_c, gi_0, gi_s, noL_0, noL_s, isW_n, isW_i, isW_r, rcv_c, rcvT_c, swK_0, swK_s, catS, or_false, false_or, not_false_eq_true, not_true_eq_false, true_implies, false_implies, and_true, true_and, ↓reduceIte, Nat.reduceAdd, Nat.reduceLT, Nat.reduceLeDiff, Nat.reduceEqDiff, Nat.reduceSub, forall_const, eq_self, and_self, or_true, true_or, lve_i, lve_r, lve_l, lve_0, List.replicate_succ, List.replicate_zero, mX, mX6_passOnWilled]
  have := key 0 (by omega)
  rw [rowN_0, rowN_0] at this
  exact this
set_option maxRecDepth 100000 in
set_option maxHeartbeats 4000000 in
theorem c_sunset {i : Nat} (hS : isSt G i) (f : Int32) : Run E (d + 2) mX6_sunset [.ref i, .int f] (0, 0) G I (some (.int (sunR f (getS I i)))) G (putS I i (sunF f (getS I i))) := by
  have hS0 := hS
  obtain ⟨h0, h1, h2, h3, h4, a1, a2, a3, a4, l1, l2, l3, l4⟩ := hS
  have hgw : ∀ k, fdW f (getS I i) k = if I (i + 3) k ≤ 0 then I (i + 3) k else wbf (I (i + 3) k) (I (i + 4) k) f := fun _ => rfl
  have hsu : ∀ k a, suS f (getS I i) k a = if I (i + 3) k ≤ 0 then a else if wbf (I (i + 3) k) (I (i + 4) k) f ≤ 0 then a else if inT (I i 4) (I (i + 1) k) then a ||| bitI (I (i + 2) k) else a := fun _ _ => rfl
  have hsc : ∀ k c, scS f (getS I i) k c = if I (i + 3) k ≤ 0 then c else if c = 0 then (if wbf (I (i + 3) k) (I (i + 4) k) f = I (i + 3) k then 0 else 1) else 1 := fun _ _ => rfl
  have key : ∀ k, k ≤ 12 → Ex E (d + 2) mX6_sunset (fun a b c => a = some (.int (sunR f (getS I i))) ∧ b = G ∧ c = putS I i (sunF f (getS I i))) 7 [some (.ref i), some (.int f), some (.int (foldN (suS f (getS I i)) k 0)), some (.int (foldN (scS f (getS I i)) k 0)), some (.int (nI k)), none, none] [] (0, 0) G (rowN I (i + 3) (fdW f (getS I i)) k) := by
    refine dn ?_ ?_
    · have r0 : rowN I (i + 3) (fdW f (getS I i)) 12 i = I i := rowN_ne (by omega)
      refine Ex.run TX6_sunset [7] 60 ?_
      simp only [↓tX6_sunset, ↓opPush, ↓opILoad, ↓opLLoad, ↓opALoad, ↓opIStore, ↓opAStore, ↓opLStore, ↓opIInc, ↓opI1, ↓opII, ↓opID, ↓opLL, ↓opLD, ↓opLI, ↓opI2L, ↓opL2I, ↓opLcmp, ↓opDup, ↓opDupX1, ↓opDup2, ↓opPop, ↓opIf1, ↓opIf2, ↓opGoto, ↓opIRet, ↓opZRet, ↓opLRet, ↓opVRet, ↓opGetI, ↓opGetL, ↓opGetR, ↓opPutI, ↓opPutZ, ↓opPutL, ↓opPutR, ↓opIALoad, ↓opBALoad, ↓opZALoad, ↓opLALoad, ↓opAALoad, ↓opIAStore, ↓opZAStore, ↓opLAStore, ↓opALen, ↓opGetS, ↓opGetC, ↓opStrV, ↓opStrC, ↓opCallV, ↓opCallS, ↓opSw, ↓opCopy, ↓opCallT, ↓opBRet, ↓opObjI, ↓opNew, ↓opNewA, ↓opANew, ↓opAAStore, ↓opMNew, ↓opCallI, ↓wp_s, ↓wp_0, ↓popI_c, ↓popL_c, ↓popR_c, ↓pop1_i, ↓pop1_r, ↓ldI_0, ↓ldI_s, ↓ldL_0, ↓ldL_s, ↓ldR_0, ↓ldR_s, ↓stL_0, ↓stL_s, ↓tk_0, ↓tk_s, ↓Kc_s, ↓Kc_n, isS_0, isS_s, asP_c, gi_0, gi_s, noL_0, noL_s, isW_n, isW_i, isW_r, rcv_c, rcvT_c, swK_0, swK_s, catS, or_false, false_or, not_false_eq_true, not_true_eq_false, true_implies, false_implies, and_true, true_and, ↓reduceIte, Nat.reduceAdd, Nat.reduceLT, Nat.reduceLeDiff, Nat.reduceEqDiff, Nat.reduceSub, forall_const, eq_self, and_self, or_true, true_or, lpT (N := 12) (n := 12) rfl, h0, ↓asP_h h1, ↓asP_h h2, ↓asP_h h3, ↓asP_h h4, a1, a2, a3, a4, a1.A, a2.A, a3.A, a4.A, l1, l2, l3, l4, r0]
      have hp : rowN I (i + 3) (fdW f (getS I i)) 12 = putS I i (fdV f (getS I i)) := (putS_row (by decide) (by decide)).symm
      refine ⟨fun c => ⟨scF_01 f _ 12, ?_⟩, fun c => ⟨_, _, _, _, rfl, c_pass hS0 _, ?_⟩⟩
      · have c : goF f (getS I i) = 0 := c
        unfold sunR sunF
        rw [if_pos c, if_pos c, hp]
        exact ⟨rfl, rfl⟩
      · have c : ¬ goF f (getS I i) = 0 := c
        simp only [↓tX6_sunset, ↓opPush, ↓opILoad, ↓opLLoad, ↓opALoad, ↓opIStore, ↓opAStore, ↓opLStore, ↓opIInc, ↓opI1, ↓opII, ↓opID, ↓opLL, ↓opLD, ↓opLI, ↓opI2L, ↓opL2I, ↓opLcmp, ↓opDup, ↓opDupX1, ↓opDup2, ↓opPop, ↓opIf1, ↓opIf2, ↓opGoto, ↓opIRet, ↓opZRet, ↓opLRet, ↓opVRet, ↓opGetI, ↓opGetL, ↓opGetR, ↓opPutI, ↓opPutZ, ↓opPutL, ↓opPutR, ↓opIALoad, ↓opBALoad, ↓opZALoad, ↓opLALoad, ↓opAALoad, ↓opIAStore, ↓opZAStore, ↓opLAStore, ↓opALen, ↓opGetS, ↓opGetC, ↓opStrV, ↓opStrC, ↓opCallV, ↓opCallS, ↓opSw, ↓opCopy, ↓opCallT, ↓opBRet, ↓opObjI, ↓opNew, ↓opNewA, ↓opANew, ↓opAAStore, ↓opMNew, ↓opCallI, ↓wp_s, ↓wp_0, ↓popI_c, ↓popL_c, ↓popR_c, ↓pop1_i, ↓pop1_r, ↓ldI_0, ↓ldI_s, ↓ldL_0, ↓ldL_s, ↓ldR_0, ↓ldR_s, ↓stL_0, ↓stL_s, ↓tk_0, ↓tk_s, ↓Kc_s, ↓Kc_n, isS_0, isS_s, asP_c, gi_0, gi_s, noL_0, noL_s, isW_n, isW_i, isW_r, rcv_c, rcvT_c, swK_0, swK_s, catS, or_false, false_or, not_false_eq_true, not_true_eq_false, true_implies, false_implies, and_true, true_and, ↓reduceIte, Nat.reduceAdd, Nat.reduceLT, Nat.reduceLeDiff, Nat.reduceEqDiff, Nat.reduceSub, forall_const, eq_self, and_self, or_true, true_or]
        unfold sunR sunF
        rw [if_neg c, if_neg c, hp, ← putS_num (I := putS I i (fdV f (getS I i))) (Or.inl rfl), putS_putS, putS_putS]
        exact ⟨rfl, putS_congr (eqS_pass (getS_putS.trans (eqS_up2 getS_putS)))⟩
    · intro k hk ih
      have e1 : (nI k).toNatClampNeg = k := nI_clamp (by omega); have e2 : vp_in (nI k) 12 := vp_in_nI hk (by omega); have e3 := lpF (N := 12) (n := 12) (k := k) rfl hk (by decide)
      have r0 : ∀ n, rowN I (i + 3) (fdW f (getS I i)) n i = I i := fun n => rowN_ne (by omega)
      have r1 : ∀ n, rowN I (i + 3) (fdW f (getS I i)) n (i + 1) = I (i + 1) := fun n => rowN_ne (by omega)
      have r2 : ∀ n, rowN I (i + 3) (fdW f (getS I i)) n (i + 2) = I (i + 2) := fun n => rowN_ne (by omega)
      have r3 : rowN I (i + 3) (fdW f (getS I i)) k (i + 3) k = I (i + 3) k := rowN_ge (Nat.le_refl k)
      have r4 : ∀ n, rowN I (i + 3) (fdW f (getS I i)) n (i + 4) = I (i + 4) := fun n => rowN_ne (by omega)
      refine Ex.run TX6_sunset [7, 63] 60 ?_
      simp only [↓tX6_sunset, ↓opPush, ↓opILoad, ↓opLLoad, ↓opALoad, ↓opIStore, ↓opAStore, ↓opLStore, ↓opIInc, ↓opI1, ↓opII, ↓opID, ↓opLL, ↓opLD, ↓opLI, ↓opI2L, ↓opL2I, ↓opLcmp, ↓opDup, ↓opDupX1, ↓opDup2, ↓opPop, ↓opIf1, ↓opIf2, ↓opGoto, ↓opIRet, ↓opZRet, ↓opLRet, ↓opVRet, ↓opGetI, ↓opGetL, ↓opGetR, ↓opPutI, ↓opPutZ, ↓opPutL, ↓opPutR, ↓opIALoad, ↓opBALoad, ↓opZALoad, ↓opLALoad, ↓opAALoad, ↓opIAStore, ↓opZAStore, ↓opLAStore, ↓opALen, ↓opGetS, ↓opGetC, ↓opStrV, ↓opStrC, ↓opCallV, ↓opCallS, ↓opSw, ↓opCopy, ↓opCallT, ↓opBRet, ↓opObjI, ↓opNew, ↓opNewA, ↓opANew, ↓opAAStore, ↓opMNew, ↓opCallI, ↓wp_s, ↓wp_0, ↓popI_c, ↓popL_c, ↓popR_c, ↓pop1_i, ↓pop1_r, ↓ldI_0, ↓ldI_s, ↓ldL_0, ↓ldL_s, ↓ldR_0, ↓ldR_s, ↓stL_0, ↓stL_s, ↓tk_0, ↓tk_s, ↓Kc_s, ↓Kc_n, isS_0, isS_s, asP_c, gi_0, gi_s, noL_0, noL_s, isW_n, isW_i, isW_r, rcv_c, rcvT_c, swK_0, swK_s, catS, or_false, false_or, not_false_eq_true, not_true_eq_false, true_implies, false_implies, and_true, true_and, ↓reduceIte, Nat.reduceAdd, Nat.reduceLT, Nat.reduceLeDiff, Nat.reduceEqDiff, Nat.reduceSub, forall_const, eq_self, and_self, or_true, true_or, e3, h0, ↓asP_h h1, ↓asP_h h2, ↓asP_h h3, ↓asP_h h4, a1, a2, a3, a4, a1.A, a2.A, a3.A, a4.A, l1, l2, l3, l4, e1, e2, r0, r1, r2, r3, r4]
      refine ⟨fun c1 => ?_, fun c1 => ⟨_, _, _, _, rfl, c_wbf hS0 hk f, ?_⟩⟩
      · refine Ex.weak (ih.to (lv' := [some (.ref i), some (.int f), some (.int (foldN (suS f (getS I i)) k 0)), some (.int (foldN (scS f (getS I i)) k 0)), some (.int (nI k + 1)), none, none]) (by simp [foldN_s, hsu, hsc, c1, nI_succ]) (rowN_same (by rw [hgw, if_pos c1])).symm) ⟨rfl, rfl, rfl, rfl, rfl, trivial⟩
      · have e5 : up2 (rowN I (i + 3) (fdW f (getS I i)) k) (i + 3) k (wbf (I (i + 3) k) (I (i + 4) k) f) = rowN I (i + 3) (fdW f (getS I i)) (k + 1) := rowN_s (by rw [hgw, if_neg c1])
        have p63 : Ex E (d + 2) mX6_sunset (fun a b c => a = some (.int (sunR f (getS I i))) ∧ b = G ∧ c = putS I i (sunF f (getS I i))) 63 [some (.ref i), some (.int f), some (.int (foldN (suS f (getS I i)) k 0)), some (.int (foldN (scS f (getS I i)) (k + 1) 0)), some (.int (nI k)), some (.int (I (i + 3) k)), some (.int (wbf (I (i + 3) k) (I (i + 4) k) f))] [] (0, 0) G (rowN I (i + 3) (fdW f (getS I i)) (k + 1)) := by
          refine Ex.run TX6_sunset [7] 60 ?_
          simp only [↓tX6_sunset, ↓opPush, ↓opILoad, ↓opLLoad, ↓opALoad, ↓opIStore, ↓opAStore, ↓opLStore, ↓opIInc, ↓opI1, ↓opII, ↓opID, ↓opLL, ↓opLD, ↓opLI, ↓opI2L, ↓opL2I, ↓opLcmp, ↓opDup, ↓opDupX1, ↓opDup2, ↓opPop, ↓opIf1, ↓opIf2, ↓opGoto, ↓opIRet, ↓opZRet, ↓opLRet, ↓opVRet, ↓opGetI, ↓opGetL, ↓opGetR, ↓opPutI, ↓opPutZ, ↓opPutL, ↓opPutR, ↓opIALoad, ↓opBALoad, ↓opZALoad, ↓opLALoad, ↓opAALoad, ↓opIAStore, ↓opZAStore, ↓opLAStore, ↓opALen, ↓opGetS, ↓opGetC, ↓opStrV, ↓opStrC, ↓opCallV, ↓opCallS, ↓opSw, ↓opCopy, ↓opCallT, ↓opBRet, ↓opObjI, ↓opNew, ↓opNewA, ↓opANew, ↓opAAStore, ↓opMNew, ↓opCallI, ↓wp_s, ↓wp_0, ↓popI_c, ↓popL_c, ↓popR_c, ↓pop1_i, ↓pop1_r, ↓ldI_0, ↓ldI_s, ↓ldL_0, ↓ldL_s, ↓ldR_0, ↓ldR_s, ↓stL_0, ↓stL_s, ↓tk_0, ↓tk_s, ↓Kc_s, ↓Kc_n, isS_0, isS_s, asP_c, gi_0, gi_s, noL_0, noL_s, isW_n, isW_i, isW_r, rcv_c, rcvT_c, swK_0, swK_s, catS, or_false, false_or, not_false_eq_true, not_true_eq_false, true_implies, false_implies, and_true, true_and, ↓reduceIte, Nat.reduceAdd, Nat.reduceLT, Nat.reduceLeDiff, Nat.reduceEqDiff, Nat.reduceSub, forall_const, eq_self, and_self, or_true, true_or, h0, ↓asP_h h1, ↓asP_h h2, ↓asP_h h3, ↓asP_h h4, a1, a2, a3, a4, a1.A, a2.A, a3.A, a4.A, l1, l2, l3, l4, e1, e2, r0, r1, r2, r4]
          refine ⟨fun c2 => ?_, fun c2 => ⟨_, _, _, _, rfl, c_isIn hS0 _, ?_⟩⟩
          · exact Ex.weak (ih.lvE (lv' := [some (.ref i), some (.int f), some (.int (foldN (suS f (getS I i)) k 0)), some (.int (foldN (scS f (getS I i)) (k + 1) 0)), some (.int (nI k + 1)), none, none]) (by rw [foldN_s (suS f (getS I i)), hsu]; simp [c1, c2, nI_succ])) ⟨rfl, rfl, rfl, rfl, rfl, trivial⟩
          · simp only [↓tX6_sunset, ↓opPush, ↓opILoad, ↓opLLoad, ↓opALoad, ↓opIStore, ↓opAStore, ↓opLStore, ↓opIInc, ↓opI1, ↓opII, ↓opID, ↓opLL, ↓opLD, ↓opLI, ↓opI2L, ↓opL2I, ↓opLcmp, ↓opDup, ↓opDupX1, ↓opDup2, ↓opPop, ↓opIf1, ↓opIf2, ↓opGoto, ↓opIRet, ↓opZRet, ↓opLRet, ↓opVRet, ↓opGetI, ↓opGetL, ↓opGetR, ↓opPutI, ↓opPutZ, ↓opPutL, ↓opPutR, ↓opIALoad, ↓opBALoad, ↓opZALoad, ↓opLALoad, ↓opAALoad, ↓opIAStore, ↓opZAStore, ↓opLAStore, ↓opALen, ↓opGetS, ↓opGetC, ↓opStrV, ↓opStrC, ↓opCallV, ↓opCallS, ↓opSw, ↓opCopy, ↓opCallT, ↓opBRet, ↓opObjI, ↓opNew, ↓opNewA, ↓opANew, ↓opAAStore, ↓opMNew, ↓opCallI, ↓wp_s, ↓wp_0, ↓popI_c, ↓popL_c, ↓popR_c, ↓pop1_i, ↓pop1_r, ↓ldI_0, ↓ldI_s, ↓ldL_0, ↓ldL_s, ↓ldR_0, ↓ldR_s, ↓stL_0, ↓stL_s, ↓tk_0, ↓tk_s, ↓Kc_s, ↓Kc_n, isS_0, isS_s, asP_c, gi_0, gi_s, noL_0, noL_s, isW_n, isW_i, isW_r, rcv_c, rcvT_c, swK_0, swK_s, catS, or_false, false_or, not_false_eq_true, not_true_eq_false, true_implies, false_implies, and_true, true_and, ↓reduceIte, Nat.reduceAdd, Nat.reduceLT, Nat.reduceLeDiff, Nat.reduceEqDiff, Nat.reduceSub, forall_const, eq_self, and_self, or_true, true_or, bInt_0, h0, ↓asP_h h1, ↓asP_h h2, ↓asP_h h3, ↓asP_h h4, a1, a2, a3, a4, a1.A, a2.A, a3.A, a4.A, l1, l2, l3, l4, e1, e2, r0, r1, r2, r4]
            refine ⟨fun c3 => ?_, fun c3 => ?_⟩
            · exact Ex.weak (ih.lvE (lv' := [some (.ref i), some (.int f), some (.int (foldN (suS f (getS I i)) k 0)), some (.int (foldN (scS f (getS I i)) (k + 1) 0)), some (.int (nI k + 1)), none, none]) (by rw [foldN_s (suS f (getS I i)), hsu]; simp [c1, c2, c3, nI_succ])) ⟨rfl, rfl, rfl, rfl, rfl, trivial⟩
            · exact Ex.weak (ih.lvE (lv' := [some (.ref i), some (.int f), some (.int (foldN (suS f (getS I i)) k 0 ||| bitI (I (i + 2) k))), some (.int (foldN (scS f (getS I i)) (k + 1) 0)), some (.int (nI k + 1)), none, none]) (by rw [foldN_s (suS f (getS I i)), hsu]; simp [c1, c2, Decidable.not_not.mp c3, nI_succ])) ⟨rfl, rfl, rfl, rfl, rfl, trivial⟩
        simp only [↓tX6_sunset, ↓opPush, ↓opILoad, ↓opLLoad, ↓opALoad, ↓opIStore, ↓opAStore, ↓opLStore, ↓opIInc, ↓opI1, ↓opII, ↓opID, ↓opLL, ↓opLD, ↓opLI, ↓opI2L, ↓opL2I, ↓opLcmp, ↓opDup, ↓opDupX1, ↓opDup2, ↓opPop, ↓opIf1, ↓opIf2, ↓opGoto, ↓opIRet, ↓opZRet, ↓opLRet, ↓opVRet, ↓opGetI, ↓opGetL, ↓opGetR, ↓opPutI, ↓opPutZ, ↓opPutL, ↓opPutR, ↓opIALoad, ↓opBALoad, ↓opZALoad, ↓opLALoad, ↓opAALoad, ↓opIAStore, ↓opZAStore, ↓opLAStore, ↓opALen, ↓opGetS, ↓opGetC, ↓opStrV, ↓opStrC, ↓opCallV, ↓opCallS, ↓opSw, ↓opCopy, ↓opCallT, ↓opBRet, ↓opObjI, ↓opNew, ↓opNewA, ↓opANew, ↓opAAStore, ↓opMNew, ↓opCallI, ↓wp_s, ↓wp_0, ↓popI_c, ↓popL_c, ↓popR_c, ↓pop1_i, ↓pop1_r, ↓ldI_0, ↓ldI_s, ↓ldL_0, ↓ldL_s, ↓ldR_0, ↓ldR_s, ↓stL_0, ↓stL_s, ↓tk_0, ↓tk_s, ↓Kc_s, ↓Kc_n, isS_0, isS_s, asP_c, gi_0, gi_s, noL_0, noL_s, isW_n, isW_i, isW_r, rcv_c, rcvT_c, swK_0, swK_s, catS, or_false, false_or, not_false_eq_true, not_true_eq_false, true_implies, false_implies, and_true, true_and, ↓reduceIte, Nat.reduceAdd, Nat.reduceLT, Nat.reduceLeDiff, Nat.reduceEqDiff, Nat.reduceSub, forall_const, eq_self, and_self, or_true, true_or, h0, ↓asP_h h1, ↓asP_h h2, ↓asP_h h3, ↓asP_h h4, a1, a2, a3, a4, a1.A, a2.A, a3.A, a4.A, l1, l2, l3, l4, e1, e2, r0, r1, r2, r3, r4, e5]
        refine ⟨fun c2 => ⟨fun c3 => p63.lvE ?_, fun c3 => p63.lvE ?_⟩, fun c2 => p63.lvE ?_⟩
        · rw [foldN_s (scS f (getS I i)), hsc, if_neg c1, if_pos c2, if_pos c3]
        · rw [foldN_s (scS f (getS I i)), hsc, if_neg c1, if_pos c2, if_neg c3]
        · rw [foldN_s (scS f (getS I i)), hsc, if_neg c1, if_neg c2]
  refine Ct.run okX6_sunset TX6_sunset [7] 60 rfl rfl ?_
  simp only [↓tX6_sunset, ↓opPush, ↓opILoad, ↓opLLoad, ↓opALoad, ↓opIStore, ↓opAStore, ↓opLStore, ↓opIInc, ↓opI1, ↓opII, ↓opID, ↓opLL, ↓opLD, ↓opLI, ↓opI2L, ↓opL2I, ↓opLcmp, ↓opDup, ↓opDupX1, ↓opDup2, ↓opPop, ↓opIf1, ↓opIf2, ↓opGoto, ↓opIRet, ↓opZRet, ↓opLRet, ↓opVRet, ↓opGetI, ↓opGetL, ↓opGetR, ↓opPutI, ↓opPutZ, ↓opPutL, ↓opPutR, ↓opIALoad, ↓opBALoad, ↓opZALoad, ↓opLALoad, ↓opAALoad, ↓opIAStore, ↓opZAStore, ↓opLAStore, ↓opALen, ↓opGetS, ↓opGetC, ↓opStrV, ↓opStrC, ↓opCallV, ↓opCallS, ↓opSw, ↓opCopy, ↓opCallT, ↓opBRet, ↓opObjI, ↓opNew, ↓opNewA, ↓opANew, ↓opAAStore, ↓opMNew, ↓opCallI, ↓wp_s, ↓wp_0, ↓popI_c, ↓popL_c, ↓popR_c, ↓pop1_i, ↓pop1_r, ↓ldI_0, ↓ldI_s, ↓ldL_0, ↓ldL_s, ↓ldR_0, ↓ldR_s, ↓stL_0, ↓stL_s, ↓tk_0, ↓tk_s, ↓Kc_s, ↓Kc_n, isS_0, isS_s, asP_c, gi_0, gi_s, noL_0, noL_s, isW_n, isW_i, isW_r, rcv_c, rcvT_c, swK_0, swK_s, catS, or_false, false_or, not_false_eq_true, not_true_eq_false, true_implies, false_implies, and_true, true_and, ↓reduceIte, Nat.reduceAdd, Nat.reduceLT, Nat.reduceLeDiff, Nat.reduceEqDiff, Nat.reduceSub, forall_const, eq_self, and_self, or_true, true_or, lve_i, lve_r, lve_l, lve_0, List.replicate_succ, List.replicate_zero, mX, mX6_sunset]
  have := key 0 (by omega)
  rw [rowN_0] at this
  exact this
end
