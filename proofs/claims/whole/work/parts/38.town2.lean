/-! ===== TownReader: a town read (draft 4, told 7, reader 12, items 14) ===== -/
theorem up2_sa {α : Type} (f : Nat → Nat → α) (a k : Nat) (v : α) : up2 f a k v a k = v := by simp [up2]
theorem up2_nk {α : Type} {f : Nat → Nat → α} {a k j : Nat} {v : α} (h : j ≠ k) : up2 f a k v a j = f a j := by simp [up2, h]
theorem GTs.set {G : GD} (h : GTs G) {s k : Nat} {v : Option Nat} (hs : kP s k = none) : GTs (gpP G s k v) := by
  refine ⟨h.1, fun a ha => ⟨(h.2 a ha).1, (h.2 a ha).2.1, fun j q hq => ?_⟩⟩
  show up2 G.2.2.2.1 s k v a j = some q
  have h0 : G.2.2.2.1 a j = some q := (h.2 a ha).2.2 j q hq
  unfold up2
  by_cases e1 : a = s
  · by_cases e2 : j = k
    · subst e1 e2
      rw [hs] at hq
      cases hq
    · rw [if_pos e1, if_neg e2]; exact h0
  · rw [if_neg e1]; exact h0
/-- the reader at s set upon the tape -/
def gS (G : GD) (s : Nat) : GD := gpP G s 0 (some 2)
def sgI (I : IM) (s L : Nat) : IM := up2 I s 1 (nI L)
theorem gS_12 {G : GD} (h : GTs G) : GTs (gS G 12) := h.set rfl
theorem gS_25 {G : GD} (h : GTs G) : GTs (gS G 25) := h.set rfl
theorem gS_sg {G : GD} (h : GTs G) {s : Nat} (h5 : okO G s 5) (h2 : s ≠ 2) : isSg (gS G s) s := ⟨h5, by simp [gS, gpP, gP, up2], h2, (h.o 2 100 rfl rfl).A, h.l 2 240 rfl rfl⟩
/-- the given cells: bounds and letters -/
def GVn (G : GD) : Prop := (∀ j, j < 6 → okA G (100001 + j) ∧ gL G (100001 + j) = if j < 4 then 2 else 4) ∧ gL G 100013 = 4 ∧ gL G 100014 = 2 ∧ gL G 100015 = 2 ∧ gL G 100016 = 6
theorem GVn.gS {G : GD} {s : Nat} (h : GVn G) : GVn (gS G s) := h
def clrN (I : IM) (i k : Nat) : IM := fun b j => if i + 1 ≤ b ∧ b ≤ i + 4 ∧ j < k then 0 else I b j
theorem clrN_s (I : IM) (i k : Nat) : up2 (up2 (up2 (up2 (clrN I i k) (i + 1) k 0) (i + 2) k 0) (i + 3) k 0) (i + 4) k 0 = clrN I i (k + 1) := by
  funext b j
  unfold up2 clrN
  by_cases h1 : b = i + 1
  · subst h1
    by_cases h2 : j = k
    · subst h2; simp
    · have : (j < k + 1) = (j < k) := propext ⟨fun q => by omega, fun q => by omega⟩
      simp [h2, this]
  · by_cases h3 : b = i + 2
    · subst h3
      by_cases h2 : j = k
      · subst h2; simp
      · have : (j < k + 1) = (j < k) := propext ⟨fun q => by omega, fun q => by omega⟩
        simp [h2, this]
    · by_cases h4 : b = i + 3
      · subst h4
        by_cases h2 : j = k
        · subst h2; simp
        · have : (j < k + 1) = (j < k) := propext ⟨fun q => by omega, fun q => by omega⟩
          simp [h2, this]
      · by_cases h5 : b = i + 4
        · subst h5
          by_cases h2 : j = k
          · subst h2; simp
          · have : (j < k + 1) = (j < k) := propext ⟨fun q => by omega, fun q => by omega⟩
            simp [h2, this]
        · rw [if_neg h5, if_neg h4, if_neg h3, if_neg h1, if_neg (by omega), if_neg (by omega)]
theorem clrN_0 (I : IM) (i : Nat) : clrN I i 0 = I := by
  funext b j
  unfold clrN
  rw [if_neg (by omega)]
def its4 (x y z w : Int32) (r : Nat → Int32) : Nat → Int32 := upd (upd (upd (upd r 0 x) 1 y) 2 z) 3 w
theorem its_up (I : IM) (a : Nat) (F x y z w : Int32) : up2 (up2 (up2 (up2 (pI I 12 a F) 14 0 x) 14 1 y) 14 2 z) 14 3 w = pI (rwI I 14 (its4 x y z w (I 14))) 12 a F := by
  rw [up2_pI (by decide), up2_pI (by decide), up2_pI (by decide), up2_pI (by decide), ← rwI_self I 14, rwI_up, rwI_up, rwI_up, rwI_up, rwI_rwI]
  rw [rwI_self]
  rfl
/-- what the clauses leave -/
def rrI (I : IM) (it : Nat → Int32) : IM := up2 (up2 (up2 (rwI I 14 it) 4 2 (it 0)) 7 5 (it 1)) 3 3 1
def rpI (I : IM) (it : Nat → Int32) (p : Nat) : IM := up2 (up2 (up2 (rwI I 14 it) 5 p (it 0)) 6 p (it 1)) 4 0 (nI (p + 1))
def rgI (I : IM) (it : Nat → Int32) (g : Nat) : IM := up2 (up2 (up2 (up2 (up2 (rwI I 14 it) 8 g (it 0)) 9 g (it 1)) 10 g (it 2)) 11 g (it 3)) 4 1 (nI (g + 1))
def rrF (I : IM) (L a : Nat) (F : Int32) : Nat × Int32 × (Nat → Int32) := riL (I 2) L (I 100014) 2 (I 100001) (I 100002) 3 0 (tkA L a) F (its4 1 20 0 0 (I 14))
def rpF (I : IM) (L a : Nat) (F : Int32) : Nat × Int32 × (Nat → Int32) := riL (I 2) L (I 100015) 2 (I 100003) (I 100004) 3 0 (tkA L a) F (its4 4 3 0 0 (I 14))
def rgF (I : IM) (L a : Nat) (F : Int32) : Nat × Int32 × (Nat → Int32) := riL (I 2) L (I 100013) 4 (I 100005) (I 100006) 5 0 (tkA L a) F (its4 0 1 6 0 (I 14))
def clD (I : IM) : IM := up2 (putS (up2 (up2 (up2 (up2 I 3 3 0) 4 0 0) 4 1 0) 4 2 1) 7 (fun _ _ => 0)) 7 5 20
section
variable {E : EV} {d : Nat} {G : GD} {I : IM} {L : Nat}
set_option maxRecDepth 100000 in
set_option maxHeartbeats 4000000 in
theorem c_start (hG : GTs G) {s : Nat} (hs : okO G s 5) (hL : L ≤ 240) : Run E (d + 1) mX5_start [.ref s, .ref 2, .int (nI L)] (0, 0) G I none (gS G s) (pI (sgI I s L) s 0 (-1)) := by
  have e1 : minI (nI L) 240 = nI L := by
    unfold minI
    exact if_neg (nI_nlt (a := 240) hL (by decide))
  have e2 : nI 240 = 240 := rfl
  refine Ct.run okX5_start TX5_start [] 40 rfl rfl ?_
  simp only [↓tX5_start, ↓opPush, ↓opILoad, ↓opLLoad, ↓opALoad, ↓opIStore, ↓opAStore, ↓opLStore, ↓opIInc, ↓opI1, ↓opII, ↓opID, ↓opLL, ↓opLD, ↓opLI, ↓opI2L, ↓opL2I, ↓opLcmp, ↓opDup, ↓opDupX1, ↓opDup2, ↓opPop, ↓opIf1, ↓opIf2, ↓opGoto, ↓opIRet, ↓opZRet, ↓opLRet, ↓opVRet, ↓opGetI, ↓opGetL, ↓opGetR, ↓opPutI, ↓opPutZ, ↓opPutL, ↓opPutR, ↓opIALoad, ↓opBALoad, ↓opZALoad, ↓opLALoad, ↓opAALoad, ↓opIAStore, ↓opZAStore, ↓opLAStore, ↓opALen, ↓opGetS, ↓opGetC, ↓opStrV, ↓opStrC, ↓opCallV, ↓opCallS, ↓opSw, ↓opCopy, ↓opCallT, ↓opBRet, ↓opObjI, ↓opNew, ↓opNewA, ↓opANew, ↓opAAStore, ↓opMNew, ↓opCallI, ↓wp_s, ↓wp_0, ↓popI_c, ↓popL_c, ↓popR_c, ↓pop1_i, ↓pop1_r, ↓ldI_0, ↓ldI_s, ↓ldL_0, ↓ldL_s, ↓ldR_0, ↓ldR_s, ↓stL_0, ↓stL_s, ↓tk_0, ↓tk_s, ↓Kc_s, ↓Kc_n, isS_0, isS_s, asP_c, gi_0, gi_s, noL_0, noL_s, isW_n, isW_i, isW_r, rcv_c, rcvT_c, swK_0, swK_s, catS, or_false, false_or, not_false_eq_true, not_true_eq_false, true_implies, false_implies, and_true, true_and, ↓reduceIte, Nat.reduceAdd, Nat.reduceLT, Nat.reduceLeDiff, Nat.reduceEqDiff, Nat.reduceSub, forall_const, eq_self, and_self, or_true, true_or, lve_i, lve_r, lve_l, lve_0, List.replicate_succ, List.replicate_zero, mX, mX5_start, hs, show okO (gpP G s 0 (some 2)) s 5 from hs, show okA (gpP G s 0 (some 2)) 2 from (hG.o 2 100 rfl rfl).A, show gL (gpP G s 0 (some 2)) 2 = 240 from hG.l 2 240 rfl rfl, show okO (gpP G s 0 (some 2)) 2 100 from hG.o 2 100 rfl rfl]
  refine ⟨_, _, _, _, rfl, c_min _ _, ?_⟩
  rw [e2, e1]
  simp only [↓tX5_start, ↓opPush, ↓opILoad, ↓opLLoad, ↓opALoad, ↓opIStore, ↓opAStore, ↓opLStore, ↓opIInc, ↓opI1, ↓opII, ↓opID, ↓opLL, ↓opLD, ↓opLI, ↓opI2L, ↓opL2I, ↓opLcmp, ↓opDup, ↓opDupX1, ↓opDup2, ↓opPop, ↓opIf1, ↓opIf2, ↓opGoto, ↓opIRet, ↓opZRet, ↓opLRet, ↓opVRet, ↓opGetI, ↓opGetL, ↓opGetR, ↓opPutI, ↓opPutZ, ↓opPutL, ↓opPutR, ↓opIALoad, ↓opBALoad, ↓opZALoad, ↓opLALoad, ↓opAALoad, ↓opIAStore, ↓opZAStore, ↓opLAStore, ↓opALen, ↓opGetS, ↓opGetC, ↓opStrV, ↓opStrC, ↓opCallV, ↓opCallS, ↓opSw, ↓opCopy, ↓opCallT, ↓opBRet, ↓opObjI, ↓opNew, ↓opNewA, ↓opANew, ↓opAAStore, ↓opMNew, ↓opCallI, ↓wp_s, ↓wp_0, ↓popI_c, ↓popL_c, ↓popR_c, ↓pop1_i, ↓pop1_r, ↓ldI_0, ↓ldI_s, ↓ldL_0, ↓ldL_s, ↓ldR_0, ↓ldR_s, ↓stL_0, ↓stL_s, ↓tk_0, ↓tk_s, ↓Kc_s, ↓Kc_n, isS_0, isS_s, asP_c, gi_0, gi_s, noL_0, noL_s, isW_n, isW_i, isW_r, rcv_c, rcvT_c, swK_0, swK_s, catS, or_false, false_or, not_false_eq_true, not_true_eq_false, true_implies, false_implies, and_true, true_and, ↓reduceIte, Nat.reduceAdd, Nat.reduceLT, Nat.reduceLeDiff, Nat.reduceEqDiff, Nat.reduceSub, forall_const, eq_self, and_self, or_true, true_or, hs, show okO (gpP G s 0 (some 2)) s 5 from hs]
  exact ⟨rfl, rfl⟩
set_option maxRecDepth 100000 in
set_option maxHeartbeats 4000000 in
theorem c_clear {i : Nat} (hS : isSt G i) : Run E d mX6_clear [.ref i] (0, 0) G I none G (putS I i (fun _ _ => 0)) := by
  obtain ⟨h0, h1, h2, h3, h4, a1, a2, a3, a4, l1, l2, l3, l4⟩ := hS
  have key : ∀ k, k ≤ 12 → Ex E d mX6_clear (fun a b c => a = none ∧ b = G ∧ c = putS I i (fun _ _ => 0)) 2 [some (.ref i), some (.int (nI k))] [] (0, 0) G (clrN I i k) := by
    refine dn ?_ ?_
    · refine Ex.run TX6_clear [2] 40 ?_
      simp only [↓tX6_clear, ↓opPush, ↓opILoad, ↓opLLoad, ↓opALoad, ↓opIStore, ↓opAStore, ↓opLStore, ↓opIInc, ↓opI1, ↓opII, ↓opID, ↓opLL, ↓opLD, ↓opLI, ↓opI2L, ↓opL2I, ↓opLcmp, ↓opDup, ↓opDupX1, ↓opDup2, ↓opPop, ↓opIf1, ↓opIf2, ↓opGoto, ↓opIRet, ↓opZRet, ↓opLRet, ↓opVRet, ↓opGetI, ↓opGetL, ↓opGetR, ↓opPutI, ↓opPutZ, ↓opPutL, ↓opPutR, ↓opIALoad, ↓opBALoad, ↓opZALoad, ↓opLALoad, ↓opAALoad, ↓opIAStore, ↓opZAStore, ↓opLAStore, ↓opALen, ↓opGetS, ↓opGetC, ↓opStrV, ↓opStrC, ↓opCallV, ↓opCallS, ↓opSw, ↓opCopy, ↓opCallT, ↓opBRet, ↓opObjI, ↓opNew, ↓opNewA, ↓opANew, ↓opAAStore, ↓opMNew, ↓opCallI, ↓wp_s, ↓wp_0, ↓popI_c, ↓popL_c, ↓popR_c, ↓pop1_i, ↓pop1_r, ↓ldI_0, ↓ldI_s, ↓ldL_0, ↓ldL_s, ↓ldR_0, ↓ldR_s, ↓stL_0, ↓stL_s, ↓tk_0, ↓tk_s, ↓Kc_s, ↓Kc_n, isS_0, isS_s, asP_c, gi_0, gi_s, noL_0, noL_s, isW_n, isW_i, isW_r, rcv_c, rcvT_c, swK_0, swK_s, catS, or_false, false_or, not_false_eq_true, not_true_eq_false, true_implies, false_implies, and_true, true_and, ↓reduceIte, Nat.reduceAdd, Nat.reduceLT, Nat.reduceLeDiff, Nat.reduceEqDiff, Nat.reduceSub, forall_const, eq_self, and_self, or_true, true_or, lpT (N := 12) (n := 12) rfl, h0, ↓asP_h h1, ↓asP_h h2, ↓asP_h h3, ↓asP_h h4, a1, a2, a3, a4, a1.A, a2.A, a3.A, a4.A, l1, l2, l3, l4]
      refine (putS_eq (fun r k hk => ?_) (fun b k hk => ?_)).symm
      · by_cases h0 : r = 0
        · subst h0
          have hk3 : k = 4 ∨ k = 5 ∨ k = 6 := by unfold inSt at hk; omega
          rcases hk3 with rfl | rfl | rfl <;> simp [up2]
        · have : ¬ i + r = i := by omega
          simp only [up2, this, if_false]
          unfold clrN inSt at *
          rw [if_pos (by omega)]
      · by_cases h0 : b = i
        · subst h0
          have hk3 : ¬ k = 4 ∧ ¬ k = 5 ∧ ¬ k = 6 := by unfold inSt at hk; omega
          simp [up2, hk3, clrN]
          omega
        · simp only [up2, h0, if_false]
          unfold clrN inSt at *
          rw [if_neg (by omega)]
    · intro k hk ih
      have e1 : (nI k).toNatClampNeg = k := nI_clamp (by omega); have e2 : vp_in (nI k) 12 := vp_in_nI hk (by omega); have e3 := lpF (N := 12) (n := 12) (k := k) rfl hk (by decide)
      refine Ex.run TX6_clear [2] 40 ?_
      simp only [↓tX6_clear, ↓opPush, ↓opILoad, ↓opLLoad, ↓opALoad, ↓opIStore, ↓opAStore, ↓opLStore, ↓opIInc, ↓opI1, ↓opII, ↓opID, ↓opLL, ↓opLD, ↓opLI, ↓opI2L, ↓opL2I, ↓opLcmp, ↓opDup, ↓opDupX1, ↓opDup2, ↓opPop, ↓opIf1, ↓opIf2, ↓opGoto, ↓opIRet, ↓opZRet, ↓opLRet, ↓opVRet, ↓opGetI, ↓opGetL, ↓opGetR, ↓opPutI, ↓opPutZ, ↓opPutL, ↓opPutR, ↓opIALoad, ↓opBALoad, ↓opZALoad, ↓opLALoad, ↓opAALoad, ↓opIAStore, ↓opZAStore, ↓opLAStore, ↓opALen, ↓opGetS, ↓opGetC, ↓opStrV, ↓opStrC, ↓opCallV, ↓opCallS, ↓opSw, ↓opCopy, ↓opCallT, ↓opBRet, ↓opObjI, ↓opNew, ↓opNewA, ↓opANew, ↓opAAStore, ↓opMNew, ↓opCallI, ↓wp_s, ↓wp_0, ↓popI_c, ↓popL_c, ↓popR_c, ↓pop1_i, ↓pop1_r, ↓ldI_0, ↓ldI_s, ↓ldL_0, ↓ldL_s, ↓ldR_0, ↓ldR_s, ↓stL_0, ↓stL_s, ↓tk_0, ↓tk_s, ↓Kc_s, ↓Kc_n, isS_0, isS_s, asP_c, gi_0, gi_s, noL_0, noL_s, isW_n, isW_i, isW_r, rcv_c, rcvT_c, swK_0, swK_s, catS, or_false, false_or, not_false_eq_true, not_true_eq_false, true_implies, false_implies, and_true, true_and, ↓reduceIte, Nat.reduceAdd, Nat.reduceLT, Nat.reduceLeDiff, Nat.reduceEqDiff, Nat.reduceSub, forall_const, eq_self, and_self, or_true, true_or, e3, h0, ↓asP_h h1, ↓asP_h h2, ↓asP_h h3, ↓asP_h h4, a1, a2, a3, a4, a1.A, a2.A, a3.A, a4.A, l1, l2, l3, l4, e1, e2]
      exact ih.to (by simp [nI_succ]) (clrN_s I i k).symm
  refine Ct.run okX6_clear TX6_clear [2] 40 rfl rfl ?_
  simp only [↓tX6_clear, ↓opPush, ↓opILoad, ↓opLLoad, ↓opALoad, ↓opIStore, ↓opAStore, ↓opLStore, ↓opIInc, ↓opI1, ↓opII, ↓opID, ↓opLL, ↓opLD, ↓opLI, ↓opI2L, ↓opL2I, ↓opLcmp, ↓opDup, ↓opDupX1, ↓opDup2, ↓opPop, ↓opIf1, ↓opIf2, ↓opGoto, ↓opIRet, ↓opZRet, ↓opLRet, ↓opVRet, ↓opGetI, ↓opGetL, ↓opGetR, ↓opPutI, ↓opPutZ, ↓opPutL, ↓opPutR, ↓opIALoad, ↓opBALoad, ↓opZALoad, ↓opLALoad, ↓opAALoad, ↓opIAStore, ↓opZAStore, ↓opLAStore, ↓opALen, ↓opGetS, ↓opGetC, ↓opStrV, ↓opStrC, ↓opCallV, ↓opCallS, ↓opSw, ↓opCopy, ↓opCallT, ↓opBRet, ↓opObjI, ↓opNew, ↓opNewA, ↓opANew, ↓opAAStore, ↓opMNew, ↓opCallI, ↓wp_s, ↓wp_0, ↓popI_c, ↓popL_c, ↓popR_c, ↓pop1_i, ↓pop1_r, ↓ldI_0, ↓ldI_s, ↓ldL_0, ↓ldL_s, ↓ldR_0, ↓ldR_s, ↓stL_0, ↓stL_s, ↓tk_0, ↓tk_s, ↓Kc_s, ↓Kc_n, isS_0, isS_s, asP_c, gi_0, gi_s, noL_0, noL_s, isW_n, isW_i, isW_r, rcv_c, rcvT_c, swK_0, swK_s, catS, or_false, false_or, not_false_eq_true, not_true_eq_false, true_implies, false_implies, and_true, true_and, ↓reduceIte, Nat.reduceAdd, Nat.reduceLT, Nat.reduceLeDiff, Nat.reduceEqDiff, Nat.reduceSub, forall_const, eq_self, and_self, or_true, true_or, lve_i, lve_r, lve_l, lve_0, List.replicate_succ, List.replicate_zero, mX, mX6_clear]
  have := key 0 (by omega)
  rw [clrN_0] at this
  exact this
set_option maxRecDepth 100000 in
set_option maxHeartbeats 4000000 in
theorem c_clearDraft (hG : GTs G) : Run E (d + 1) mX9_clearDraft [.ref 3] (0, 0) G I none G (clD I) := by
  refine Ct.run okX9_clearDraft TX9_clearDraft [] 60 rfl rfl ?_
  simp only [↓tX9_clearDraft, ↓opPush, ↓opILoad, ↓opLLoad, ↓opALoad, ↓opIStore, ↓opAStore, ↓opLStore, ↓opIInc, ↓opI1, ↓opII, ↓opID, ↓opLL, ↓opLD, ↓opLI, ↓opI2L, ↓opL2I, ↓opLcmp, ↓opDup, ↓opDupX1, ↓opDup2, ↓opPop, ↓opIf1, ↓opIf2, ↓opGoto, ↓opIRet, ↓opZRet, ↓opLRet, ↓opVRet, ↓opGetI, ↓opGetL, ↓opGetR, ↓opPutI, ↓opPutZ, ↓opPutL, ↓opPutR, ↓opIALoad, ↓opBALoad, ↓opZALoad, ↓opLALoad, ↓opAALoad, ↓opIAStore, ↓opZAStore, ↓opLAStore, ↓opALen, ↓opGetS, ↓opGetC, ↓opStrV, ↓opStrC, ↓opCallV, ↓opCallS, ↓opSw, ↓opCopy, ↓opCallT, ↓opBRet, ↓opObjI, ↓opNew, ↓opNewA, ↓opANew, ↓opAAStore, ↓opMNew, ↓opCallI, ↓wp_s, ↓wp_0, ↓popI_c, ↓popL_c, ↓popR_c, ↓pop1_i, ↓pop1_r, ↓ldI_0, ↓ldI_s, ↓ldL_0, ↓ldL_s, ↓ldR_0, ↓ldR_s, ↓stL_0, ↓stL_s, ↓tk_0, ↓tk_s, ↓Kc_s, ↓Kc_n, isS_0, isS_s, asP_c, gi_0, gi_s, noL_0, noL_s, isW_n, isW_i, isW_r, rcv_c, rcvT_c, swK_0, swK_s, catS, or_false, false_or, not_false_eq_true, not_true_eq_false, true_implies, false_implies, and_true, true_and, ↓reduceIte, Nat.reduceAdd, Nat.reduceLT, Nat.reduceLeDiff, Nat.reduceEqDiff, Nat.reduceSub, forall_const, eq_self, and_self, or_true, true_or, lve_i, lve_r, lve_l, lve_0, List.replicate_succ, List.replicate_zero, mX, mX9_clearDraft, hG.o 3 9 rfl rfl, ↓asP_h (hG.p 3 0 4 rfl rfl), hG.o 4 8 rfl rfl, ↓asP_h (hG.p 4 5 7 rfl rfl), hG.o 7 6 rfl rfl]
  refine ⟨_, _, _, _, rfl, c_clear (hG.st 7 rfl), ?_⟩
  simp only [↓tX9_clearDraft, ↓opPush, ↓opILoad, ↓opLLoad, ↓opALoad, ↓opIStore, ↓opAStore, ↓opLStore, ↓opIInc, ↓opI1, ↓opII, ↓opID, ↓opLL, ↓opLD, ↓opLI, ↓opI2L, ↓opL2I, ↓opLcmp, ↓opDup, ↓opDupX1, ↓opDup2, ↓opPop, ↓opIf1, ↓opIf2, ↓opGoto, ↓opIRet, ↓opZRet, ↓opLRet, ↓opVRet, ↓opGetI, ↓opGetL, ↓opGetR, ↓opPutI, ↓opPutZ, ↓opPutL, ↓opPutR, ↓opIALoad, ↓opBALoad, ↓opZALoad, ↓opLALoad, ↓opAALoad, ↓opIAStore, ↓opZAStore, ↓opLAStore, ↓opALen, ↓opGetS, ↓opGetC, ↓opStrV, ↓opStrC, ↓opCallV, ↓opCallS, ↓opSw, ↓opCopy, ↓opCallT, ↓opBRet, ↓opObjI, ↓opNew, ↓opNewA, ↓opANew, ↓opAAStore, ↓opMNew, ↓opCallI, ↓wp_s, ↓wp_0, ↓popI_c, ↓popL_c, ↓popR_c, ↓pop1_i, ↓pop1_r, ↓ldI_0, ↓ldI_s, ↓ldL_0, ↓ldL_s, ↓ldR_0, ↓ldR_s, ↓stL_0, ↓stL_s, ↓tk_0, ↓tk_s, ↓Kc_s, ↓Kc_n, isS_0, isS_s, asP_c, gi_0, gi_s, noL_0, noL_s, isW_n, isW_i, isW_r, rcv_c, rcvT_c, swK_0, swK_s, catS, or_false, false_or, not_false_eq_true, not_true_eq_false, true_implies, false_implies, and_true, true_and, ↓reduceIte, Nat.reduceAdd, Nat.reduceLT, Nat.reduceLeDiff, Nat.reduceEqDiff, Nat.reduceSub, forall_const, eq_self, and_self, or_true, true_or, hG.o 3 9 rfl rfl, ↓asP_h (hG.p 3 0 4 rfl rfl), hG.o 4 8 rfl rfl, ↓asP_h (hG.p 4 5 7 rfl rfl), hG.o 7 6 rfl rfl]
  rfl
set_option maxRecDepth 100000 in
set_option maxHeartbeats 4000000 in
theorem c_readRules (hG : GTs G) (hs : isSg G 12) (hv : GVn G) (hL : I 12 1 = nI L) (hL2 : L ≤ 240) {a : Nat} (ha : a ≤ L) (F : Int32) : Run E (d + 5) mX9_readRules [.ref 3] (0, 0) G (pI I 12 a F) none G (pI (rrI I (rrF I L a F).2.2) 12 (rrF I L a F).1 (rrF I L a F).2.1) := by
  have h : Run E (d + 4) mX9_readItems [.ref 3, .ref 100008, .ref 100001, .ref 100002] (0, 0) G (pI (rwI I 14 (its4 1 20 0 0 (I 14))) 12 a F) none G (pI (rwI I 14 (rrF I L a F).2.2) 12 (rrF I L a F).1 (rrF I L a F).2.1) := c_readItems (E := E) (d := d) (I := I) hG hs hL hL2 (t := 100008) (n := 2) (lo := 100001) (hi := 100002) ⟨by decide, by decide⟩ hv.2.2.1 (by decide) (by decide) (hv.1 0 (by decide)) (hv.1 1 (by decide)) ⟨by decide, by decide⟩ ha F (its4 1 20 0 0 (I 14))
  generalize rrF I L a F = q at h ⊢
  have w14 : pI (rwI I 14 q.2.2) 12 q.1 q.2.1 14 = q.2.2 := by rw [pI_ne (by decide), rwI_at]
  have w4 : ∀ k v, up2 (pI (rwI I 14 q.2.2) 12 q.1 q.2.1) 4 k v 14 = q.2.2 := fun k v => by rw [up2_ne (by decide), w14]
  refine Ct.run okX9_readRules TX9_readRules [] 60 rfl rfl ?_
  simp only [↓tX9_readRules, ↓opPush, ↓opILoad, ↓opLLoad, ↓opALoad, ↓opIStore, ↓opAStore, ↓opLStore, ↓opIInc, ↓opI1, ↓opII, ↓opID, ↓opLL, ↓opLD, ↓opLI, ↓opI2L, ↓opL2I, ↓opLcmp, ↓opDup, ↓opDupX1, ↓opDup2, ↓opPop, ↓opIf1, ↓opIf2, ↓opGoto, ↓opIRet, ↓opZRet, ↓opLRet, ↓opVRet, ↓opGetI, ↓opGetL, ↓opGetR, ↓opPutI, ↓opPutZ, ↓opPutL, ↓opPutR, ↓opIALoad, ↓opBALoad, ↓opZALoad, ↓opLALoad, ↓opAALoad, ↓opIAStore, ↓opZAStore, ↓opLAStore, ↓opALen, ↓opGetS, ↓opGetC, ↓opStrV, ↓opStrC, ↓opCallV, ↓opCallS, ↓opSw, ↓opCopy, ↓opCallT, ↓opBRet, ↓opObjI, ↓opNew, ↓opNewA, ↓opANew, ↓opAAStore, ↓opMNew, ↓opCallI, ↓wp_s, ↓wp_0, ↓popI_c, ↓popL_c, ↓popR_c, ↓pop1_i, ↓pop1_r, ↓ldI_0, ↓ldI_s, ↓ldL_0, ↓ldL_s, ↓ldR_0, ↓ldR_s, ↓stL_0, ↓stL_s, ↓tk_0, ↓tk_s, ↓Kc_s, ↓Kc_n, isS_0, isS_s, asP_c, gi_0, gi_s, noL_0, noL_s, isW_n, isW_i, isW_r, rcv_c, rcvT_c, swK_0, swK_s, catS, or_false, false_or, not_false_eq_true, not_true_eq_false, true_implies, false_implies, and_true, true_and, ↓reduceIte, Nat.reduceAdd, Nat.reduceLT, Nat.reduceLeDiff, Nat.reduceEqDiff, Nat.reduceSub, forall_const, eq_self, and_self, or_true, true_or, lve_i, lve_r, lve_l, lve_0, List.replicate_succ, List.replicate_zero, mX, mX9_readRules, hG.o 3 9 rfl rfl, ↓asP_h (hG.p 3 0 4 rfl rfl), ↓asP_h (hG.p 3 1 12 rfl rfl), ↓asP_h (hG.p 3 2 14 rfl rfl), hG.o 14 100 rfl rfl, (hG.o 14 100 rfl rfl).A, hG.l 14 4 rfl rfl]
  refine ⟨_, _, _, _, rfl, c_setItems hG _ _ _ _, ?_⟩
  rw [its_up]
  simp only [↓tX9_readRules, ↓opPush, ↓opILoad, ↓opLLoad, ↓opALoad, ↓opIStore, ↓opAStore, ↓opLStore, ↓opIInc, ↓opI1, ↓opII, ↓opID, ↓opLL, ↓opLD, ↓opLI, ↓opI2L, ↓opL2I, ↓opLcmp, ↓opDup, ↓opDupX1, ↓opDup2, ↓opPop, ↓opIf1, ↓opIf2, ↓opGoto, ↓opIRet, ↓opZRet, ↓opLRet, ↓opVRet, ↓opGetI, ↓opGetL, ↓opGetR, ↓opPutI, ↓opPutZ, ↓opPutL, ↓opPutR, ↓opIALoad, ↓opBALoad, ↓opZALoad, ↓opLALoad, ↓opAALoad, ↓opIAStore, ↓opZAStore, ↓opLAStore, ↓opALen, ↓opGetS, ↓opGetC, ↓opStrV, ↓opStrC, ↓opCallV, ↓opCallS, ↓opSw, ↓opCopy, ↓opCallT, ↓opBRet, ↓opObjI, ↓opNew, ↓opNewA, ↓opANew, ↓opAAStore, ↓opMNew, ↓opCallI, ↓wp_s, ↓wp_0, ↓popI_c, ↓popL_c, ↓popR_c, ↓pop1_i, ↓pop1_r, ↓ldI_0, ↓ldI_s, ↓ldL_0, ↓ldL_s, ↓ldR_0, ↓ldR_s, ↓stL_0, ↓stL_s, ↓tk_0, ↓tk_s, ↓Kc_s, ↓Kc_n, isS_0, isS_s, asP_c, gi_0, gi_s, noL_0, noL_s, isW_n, isW_i, isW_r, rcv_c, rcvT_c, swK_0, swK_s, catS, or_false, false_or, not_false_eq_true, not_true_eq_false, true_implies, false_implies, and_true, true_and, ↓reduceIte, Nat.reduceAdd, Nat.reduceLT, Nat.reduceLeDiff, Nat.reduceEqDiff, Nat.reduceSub, forall_const, eq_self, and_self, or_true, true_or, hG.o 3 9 rfl rfl, ↓asP_h (hG.p 3 0 4 rfl rfl), ↓asP_h (hG.p 3 1 12 rfl rfl), ↓asP_h (hG.p 3 2 14 rfl rfl), hG.o 14 100 rfl rfl, (hG.o 14 100 rfl rfl).A, hG.l 14 4 rfl rfl]
  refine ⟨_, _, _, _, rfl, h, ?_⟩
  simp only [↓tX9_readRules, ↓opPush, ↓opILoad, ↓opLLoad, ↓opALoad, ↓opIStore, ↓opAStore, ↓opLStore, ↓opIInc, ↓opI1, ↓opII, ↓opID, ↓opLL, ↓opLD, ↓opLI, ↓opI2L, ↓opL2I, ↓opLcmp, ↓opDup, ↓opDupX1, ↓opDup2, ↓opPop, ↓opIf1, ↓opIf2, ↓opGoto, ↓opIRet, ↓opZRet, ↓opLRet, ↓opVRet, ↓opGetI, ↓opGetL, ↓opGetR, ↓opPutI, ↓opPutZ, ↓opPutL, ↓opPutR, ↓opIALoad, ↓opBALoad, ↓opZALoad, ↓opLALoad, ↓opAALoad, ↓opIAStore, ↓opZAStore, ↓opLAStore, ↓opALen, ↓opGetS, ↓opGetC, ↓opStrV, ↓opStrC, ↓opCallV, ↓opCallS, ↓opSw, ↓opCopy, ↓opCallT, ↓opBRet, ↓opObjI, ↓opNew, ↓opNewA, ↓opANew, ↓opAAStore, ↓opMNew, ↓opCallI, ↓wp_s, ↓wp_0, ↓popI_c, ↓popL_c, ↓popR_c, ↓pop1_i, ↓pop1_r, ↓ldI_0, ↓ldI_s, ↓ldL_0, ↓ldL_s, ↓ldR_0, ↓ldR_s, ↓stL_0, ↓stL_s, ↓tk_0, ↓tk_s, ↓Kc_s, ↓Kc_n, isS_0, isS_s, asP_c, gi_0, gi_s, noL_0, noL_s, isW_n, isW_i, isW_r, rcv_c, rcvT_c, swK_0, swK_s, catS, or_false, false_or, not_false_eq_true, not_true_eq_false, true_implies, false_implies, and_true, true_and, ↓reduceIte, Nat.reduceAdd, Nat.reduceLT, Nat.reduceLeDiff, Nat.reduceEqDiff, Nat.reduceSub, forall_const, eq_self, and_self, or_true, true_or, hG.o 3 9 rfl rfl, ↓asP_h (hG.p 3 0 4 rfl rfl), ↓asP_h (hG.p 3 1 12 rfl rfl), ↓asP_h (hG.p 3 2 14 rfl rfl), hG.o 14 100 rfl rfl, (hG.o 14 100 rfl rfl).A, hG.l 14 4 rfl rfl, hG.o 4 8 rfl rfl, ↓asP_h (hG.p 4 5 7 rfl rfl), hG.o 7 6 rfl rfl, vpL (i := 0) (n := 4) (by decide), vpL (i := 1) (n := 4) (by decide), show (0 : Int32).toNatClampNeg = 0 by decide, show (1 : Int32).toNatClampNeg = 1 by decide, w14, w4]
  rw [up2_pI (by decide), up2_pI (by decide), up2_pI (by decide)]
  rfl
set_option maxRecDepth 100000 in
set_option maxHeartbeats 4000000 in
theorem c_readPerson (hG : GTs G) (hs : isSg G 12) (hv : GVn G) (hL : I 12 1 = nI L) (hL2 : L ≤ 240) {p : Nat} (hp : p < 5) (hI : I 4 0 = nI p) {a : Nat} (ha : a ≤ L) (F : Int32) : Run E (d + 5) mX9_readPerson [.ref 3] (0, 0) G (pI I 12 a F) none G (pI (rpI I (rpF I L a F).2.2 p) 12 (rpF I L a F).1 (rpF I L a F).2.1) := by
  have h : Run E (d + 4) mX9_readItems [.ref 3, .ref 100009, .ref 100003, .ref 100004] (0, 0) G (pI (rwI I 14 (its4 4 3 0 0 (I 14))) 12 a F) none G (pI (rwI I 14 (rpF I L a F).2.2) 12 (rpF I L a F).1 (rpF I L a F).2.1) := c_readItems (E := E) (d := d) (I := I) hG hs hL hL2 (t := 100009) (n := 2) (lo := 100003) (hi := 100004) ⟨by decide, by decide⟩ hv.2.2.2.1 (by decide) (by decide) (hv.1 2 (by decide)) (hv.1 3 (by decide)) ⟨by decide, by decide⟩ ha F (its4 4 3 0 0 (I 14))
  generalize rpF I L a F = q at h ⊢
  have w14 : pI (rwI I 14 q.2.2) 12 q.1 q.2.1 14 = q.2.2 := by rw [pI_ne (by decide), rwI_at]
  have w4 : pI (rwI I 14 q.2.2) 12 q.1 q.2.1 4 0 = nI p := by rw [pI_ne (by decide), rwI_ne (by decide), hI]
  have e1 : vp_in (nI p) 5 := vp_in_nI hp (by decide)
  have e2 : (nI p).toNatClampNeg = p := nI_clamp (by omega)
  refine Ct.run okX9_readPerson TX9_readPerson [] 90 rfl rfl ?_
  simp only [↓tX9_readPerson, ↓opPush, ↓opILoad, ↓opLLoad, ↓opALoad, ↓opIStore, ↓opAStore, ↓opLStore, ↓opIInc, ↓opI1, ↓opII, ↓opID, ↓opLL, ↓opLD, ↓opLI, ↓opI2L, ↓opL2I, ↓opLcmp, ↓opDup, ↓opDupX1, ↓opDup2, ↓opPop, ↓opIf1, ↓opIf2, ↓opGoto, ↓opIRet, ↓opZRet, ↓opLRet, ↓opVRet, ↓opGetI, ↓opGetL, ↓opGetR, ↓opPutI, ↓opPutZ, ↓opPutL, ↓opPutR, ↓opIALoad, ↓opBALoad, ↓opZALoad, ↓opLALoad, ↓opAALoad, ↓opIAStore, ↓opZAStore, ↓opLAStore, ↓opALen, ↓opGetS, ↓opGetC, ↓opStrV, ↓opStrC, ↓opCallV, ↓opCallS, ↓opSw, ↓opCopy, ↓opCallT, ↓opBRet, ↓opObjI, ↓opNew, ↓opNewA, ↓opANew, ↓opAAStore, ↓opMNew, ↓opCallI, ↓wp_s, ↓wp_0, ↓popI_c, ↓popL_c, ↓popR_c, ↓pop1_i, ↓pop1_r, ↓ldI_0, ↓ldI_s, ↓ldL_0, ↓ldL_s, ↓ldR_0, ↓ldR_s, ↓stL_0, ↓stL_s, ↓tk_0, ↓tk_s, ↓Kc_s, ↓Kc_n, isS_0, isS_s, asP_c, gi_0, gi_s, noL_0, noL_s, isW_n, isW_i, isW_r, rcv_c, rcvT_c, swK_0, swK_s, catS, or_false, false_or, not_false_eq_true, not_true_eq_false, true_implies, false_implies, and_true, true_and, ↓reduceIte, Nat.reduceAdd, Nat.reduceLT, Nat.reduceLeDiff, Nat.reduceEqDiff, Nat.reduceSub, forall_const, eq_self, and_self, or_true, true_or, lve_i, lve_r, lve_l, lve_0, List.replicate_succ, List.replicate_zero, mX, mX9_readPerson, hG.o 3 9 rfl rfl, ↓asP_h (hG.p 3 0 4 rfl rfl), ↓asP_h (hG.p 3 1 12 rfl rfl), ↓asP_h (hG.p 3 2 14 rfl rfl), hG.o 14 100 rfl rfl, (hG.o 14 100 rfl rfl).A, hG.l 14 4 rfl rfl]
  refine ⟨_, _, _, _, rfl, c_setItems hG _ _ _ _, ?_⟩
  rw [its_up]
  simp only [↓tX9_readPerson, ↓opPush, ↓opILoad, ↓opLLoad, ↓opALoad, ↓opIStore, ↓opAStore, ↓opLStore, ↓opIInc, ↓opI1, ↓opII, ↓opID, ↓opLL, ↓opLD, ↓opLI, ↓opI2L, ↓opL2I, ↓opLcmp, ↓opDup, ↓opDupX1, ↓opDup2, ↓opPop, ↓opIf1, ↓opIf2, ↓opGoto, ↓opIRet, ↓opZRet, ↓opLRet, ↓opVRet, ↓opGetI, ↓opGetL, ↓opGetR, ↓opPutI, ↓opPutZ, ↓opPutL, ↓opPutR, ↓opIALoad, ↓opBALoad, ↓opZALoad, ↓opLALoad, ↓opAALoad, ↓opIAStore, ↓opZAStore, ↓opLAStore, ↓opALen, ↓opGetS, ↓opGetC, ↓opStrV, ↓opStrC, ↓opCallV, ↓opCallS, ↓opSw, ↓opCopy, ↓opCallT, ↓opBRet, ↓opObjI, ↓opNew, ↓opNewA, ↓opANew, ↓opAAStore, ↓opMNew, ↓opCallI, ↓wp_s, ↓wp_0, ↓popI_c, ↓popL_c, ↓popR_c, ↓pop1_i, ↓pop1_r, ↓ldI_0, ↓ldI_s, ↓ldL_0, ↓ldL_s, ↓ldR_0, ↓ldR_s, ↓stL_0, ↓stL_s, ↓tk_0, ↓tk_s, ↓Kc_s, ↓Kc_n, isS_0, isS_s, asP_c, gi_0, gi_s, noL_0, noL_s, isW_n, isW_i, isW_r, rcv_c, rcvT_c, swK_0, swK_s, catS, or_false, false_or, not_false_eq_true, not_true_eq_false, true_implies, false_implies, and_true, true_and, ↓reduceIte, Nat.reduceAdd, Nat.reduceLT, Nat.reduceLeDiff, Nat.reduceEqDiff, Nat.reduceSub, forall_const, eq_self, and_self, or_true, true_or, hG.o 3 9 rfl rfl, ↓asP_h (hG.p 3 0 4 rfl rfl), ↓asP_h (hG.p 3 1 12 rfl rfl), ↓asP_h (hG.p 3 2 14 rfl rfl), hG.o 14 100 rfl rfl, (hG.o 14 100 rfl rfl).A, hG.l 14 4 rfl rfl]
  refine ⟨_, _, _, _, rfl, h, ?_⟩
  simp only [↓tX9_readPerson, ↓opPush, ↓opILoad, ↓opLLoad, ↓opALoad, ↓opIStore, ↓opAStore, ↓opLStore, ↓opIInc, ↓opI1, ↓opII, ↓opID, ↓opLL, ↓opLD, ↓opLI, ↓opI2L, ↓opL2I, ↓opLcmp, ↓opDup, ↓opDupX1, ↓opDup2, ↓opPop, ↓opIf1, ↓opIf2, ↓opGoto, ↓opIRet, ↓opZRet, ↓opLRet, ↓opVRet, ↓opGetI, ↓opGetL, ↓opGetR, ↓opPutI, ↓opPutZ, ↓opPutL, ↓opPutR, ↓opIALoad, ↓opBALoad, ↓opZALoad, ↓opLALoad, ↓opAALoad, ↓opIAStore, ↓opZAStore, ↓opLAStore, ↓opALen, ↓opGetS, ↓opGetC, ↓opStrV, ↓opStrC, ↓opCallV, ↓opCallS, ↓opSw, ↓opCopy, ↓opCallT, ↓opBRet, ↓opObjI, ↓opNew, ↓opNewA, ↓opANew, ↓opAAStore, ↓opMNew, ↓opCallI, ↓wp_s, ↓wp_0, ↓popI_c, ↓popL_c, ↓popR_c, ↓pop1_i, ↓pop1_r, ↓ldI_0, ↓ldI_s, ↓ldL_0, ↓ldL_s, ↓ldR_0, ↓ldR_s, ↓stL_0, ↓stL_s, ↓tk_0, ↓tk_s, ↓Kc_s, ↓Kc_n, isS_0, isS_s, asP_c, gi_0, gi_s, noL_0, noL_s, isW_n, isW_i, isW_r, rcv_c, rcvT_c, swK_0, swK_s, catS, or_false, false_or, not_false_eq_true, not_true_eq_false, true_implies, false_implies, and_true, true_and, ↓reduceIte, Nat.reduceAdd, Nat.reduceLT, Nat.reduceLeDiff, Nat.reduceEqDiff, Nat.reduceSub, forall_const, eq_self, and_self, or_true, true_or, hG.o 3 9 rfl rfl, ↓asP_h (hG.p 3 0 4 rfl rfl), ↓asP_h (hG.p 3 1 12 rfl rfl), ↓asP_h (hG.p 3 2 14 rfl rfl), hG.o 14 100 rfl rfl, (hG.o 14 100 rfl rfl).A, hG.l 14 4 rfl rfl, hG.o 4 8 rfl rfl, ↓asP_h (hG.p 4 3 5 rfl rfl), hG.o 5 100 rfl rfl, (hG.o 5 100 rfl rfl).A, hG.l 5 5 rfl rfl, ↓asP_h (hG.p 4 4 6 rfl rfl), hG.o 6 100 rfl rfl, (hG.o 6 100 rfl rfl).A, hG.l 6 5 rfl rfl, vpL (i := 0) (n := 4) (by decide), vpL (i := 1) (n := 4) (by decide), show (0 : Int32).toNatClampNeg = 0 by decide, show (1 : Int32).toNatClampNeg = 1 by decide, w14, w4, up2_ne, ne_eq, Nat.reduceEqDiff, e1, e2, nI_1]
  rw [up2_pI (by decide), up2_pI (by decide), up2_pI (by decide)]
  rfl
set_option maxRecDepth 100000 in
set_option maxHeartbeats 4000000 in
theorem c_readGrudge (hG : GTs G) (hs : isSg G 12) (hv : GVn G) (hL : I 12 1 = nI L) (hL2 : L ≤ 240) {g : Nat} (hg : g < 10) (hI : I 4 1 = nI g) {a : Nat} (ha : a ≤ L) (F : Int32) : Run E (d + 5) mX9_readGrudge [.ref 3] (0, 0) G (pI I 12 a F) none G (pI (rgI I (rgF I L a F).2.2 g) 12 (rgF I L a F).1 (rgF I L a F).2.1) := by
  have h : Run E (d + 4) mX9_readItems [.ref 3, .ref 100007, .ref 100005, .ref 100006] (0, 0) G (pI (rwI I 14 (its4 0 1 6 0 (I 14))) 12 a F) none G (pI (rwI I 14 (rgF I L a F).2.2) 12 (rgF I L a F).1 (rgF I L a F).2.1) := c_readItems (E := E) (d := d) (I := I) hG hs hL hL2 (t := 100007) (n := 4) (lo := 100005) (hi := 100006) ⟨by decide, by decide⟩ hv.2.1 (by decide) (by decide) (hv.1 4 (by decide)) (hv.1 5 (by decide)) ⟨by decide, by decide⟩ ha F (its4 0 1 6 0 (I 14))
  generalize rgF I L a F = q at h ⊢
  have w14 : pI (rwI I 14 q.2.2) 12 q.1 q.2.1 14 = q.2.2 := by rw [pI_ne (by decide), rwI_at]
  have w4 : pI (rwI I 14 q.2.2) 12 q.1 q.2.1 4 1 = nI g := by rw [pI_ne (by decide), rwI_ne (by decide), hI]
  have e1 : vp_in (nI g) 12 := vp_in_nI (by omega) (by decide)
  have e2 : (nI g).toNatClampNeg = g := nI_clamp (by omega)
  refine Ct.run okX9_readGrudge TX9_readGrudge [] 90 rfl rfl ?_
  simp only [↓tX9_readGrudge, ↓opPush, ↓opILoad, ↓opLLoad, ↓opALoad, ↓opIStore, ↓opAStore, ↓opLStore, ↓opIInc, ↓opI1, ↓opII, ↓opID, ↓opLL, ↓opLD, ↓opLI, ↓opI2L, ↓opL2I, ↓opLcmp, ↓opDup, ↓opDupX1, ↓opDup2, ↓opPop, ↓opIf1, ↓opIf2, ↓opGoto, ↓opIRet, ↓opZRet, ↓opLRet, ↓opVRet, ↓opGetI, ↓opGetL, ↓opGetR, ↓opPutI, ↓opPutZ, ↓opPutL, ↓opPutR, ↓opIALoad, ↓opBALoad, ↓opZALoad, ↓opLALoad, ↓opAALoad, ↓opIAStore, ↓opZAStore, ↓opLAStore, ↓opALen, ↓opGetS, ↓opGetC, ↓opStrV, ↓opStrC, ↓opCallV, ↓opCallS, ↓opSw, ↓opCopy, ↓opCallT, ↓opBRet, ↓opObjI, ↓opNew, ↓opNewA, ↓opANew, ↓opAAStore, ↓opMNew, ↓opCallI, ↓wp_s, ↓wp_0, ↓popI_c, ↓popL_c, ↓popR_c, ↓pop1_i, ↓pop1_r, ↓ldI_0, ↓ldI_s, ↓ldL_0, ↓ldL_s, ↓ldR_0, ↓ldR_s, ↓stL_0, ↓stL_s, ↓tk_0, ↓tk_s, ↓Kc_s, ↓Kc_n, isS_0, isS_s, asP_c, gi_0, gi_s, noL_0, noL_s, isW_n, isW_i, isW_r, rcv_c, rcvT_c, swK_0, swK_s, catS, or_false, false_or, not_false_eq_true, not_true_eq_false, true_implies, false_implies, and_true, true_and, ↓reduceIte, Nat.reduceAdd, Nat.reduceLT, Nat.reduceLeDiff, Nat.reduceEqDiff, Nat.reduceSub, forall_const, eq_self, and_self, or_true, true_or, lve_i, lve_r, lve_l, lve_0, List.replicate_succ, List.replicate_zero, mX, mX9_readGrudge, hG.o 3 9 rfl rfl, ↓asP_h (hG.p 3 0 4 rfl rfl), ↓asP_h (hG.p 3 1 12 rfl rfl), ↓asP_h (hG.p 3 2 14 rfl rfl), hG.o 14 100 rfl rfl, (hG.o 14 100 rfl rfl).A, hG.l 14 4 rfl rfl]
  refine ⟨_, _, _, _, rfl, c_setItems hG _ _ _ _, ?_⟩
  rw [its_up]
  simp only [↓tX9_readGrudge, ↓opPush, ↓opILoad, ↓opLLoad, ↓opALoad, ↓opIStore, ↓opAStore, ↓opLStore, ↓opIInc, ↓opI1, ↓opII, ↓opID, ↓opLL, ↓opLD, ↓opLI, ↓opI2L, ↓opL2I, ↓opLcmp, ↓opDup, ↓opDupX1, ↓opDup2, ↓opPop, ↓opIf1, ↓opIf2, ↓opGoto, ↓opIRet, ↓opZRet, ↓opLRet, ↓opVRet, ↓opGetI, ↓opGetL, ↓opGetR, ↓opPutI, ↓opPutZ, ↓opPutL, ↓opPutR, ↓opIALoad, ↓opBALoad, ↓opZALoad, ↓opLALoad, ↓opAALoad, ↓opIAStore, ↓opZAStore, ↓opLAStore, ↓opALen, ↓opGetS, ↓opGetC, ↓opStrV, ↓opStrC, ↓opCallV, ↓opCallS, ↓opSw, ↓opCopy, ↓opCallT, ↓opBRet, ↓opObjI, ↓opNew, ↓opNewA, ↓opANew, ↓opAAStore, ↓opMNew, ↓opCallI, ↓wp_s, ↓wp_0, ↓popI_c, ↓popL_c, ↓popR_c, ↓pop1_i, ↓pop1_r, ↓ldI_0, ↓ldI_s, ↓ldL_0, ↓ldL_s, ↓ldR_0, ↓ldR_s, ↓stL_0, ↓stL_s, ↓tk_0, ↓tk_s, ↓Kc_s, ↓Kc_n, isS_0, isS_s, asP_c, gi_0, gi_s, noL_0, noL_s, isW_n, isW_i, isW_r, rcv_c, rcvT_c, swK_0, swK_s, catS, or_false, false_or, not_false_eq_true, not_true_eq_false, true_implies, false_implies, and_true, true_and, ↓reduceIte, Nat.reduceAdd, Nat.reduceLT, Nat.reduceLeDiff, Nat.reduceEqDiff, Nat.reduceSub, forall_const, eq_self, and_self, or_true, true_or, hG.o 3 9 rfl rfl, ↓asP_h (hG.p 3 0 4 rfl rfl), ↓asP_h (hG.p 3 1 12 rfl rfl), ↓asP_h (hG.p 3 2 14 rfl rfl), hG.o 14 100 rfl rfl, (hG.o 14 100 rfl rfl).A, hG.l 14 4 rfl rfl]
  refine ⟨_, _, _, _, rfl, h, ?_⟩
  simp only [↓tX9_readGrudge, ↓opPush, ↓opILoad, ↓opLLoad, ↓opALoad, ↓opIStore, ↓opAStore, ↓opLStore, ↓opIInc, ↓opI1, ↓opII, ↓opID, ↓opLL, ↓opLD, ↓opLI, ↓opI2L, ↓opL2I, ↓opLcmp, ↓opDup, ↓opDupX1, ↓opDup2, ↓opPop, ↓opIf1, ↓opIf2, ↓opGoto, ↓opIRet, ↓opZRet, ↓opLRet, ↓opVRet, ↓opGetI, ↓opGetL, ↓opGetR, ↓opPutI, ↓opPutZ, ↓opPutL, ↓opPutR, ↓opIALoad, ↓opBALoad, ↓opZALoad, ↓opLALoad, ↓opAALoad, ↓opIAStore, ↓opZAStore, ↓opLAStore, ↓opALen, ↓opGetS, ↓opGetC, ↓opStrV, ↓opStrC, ↓opCallV, ↓opCallS, ↓opSw, ↓opCopy, ↓opCallT, ↓opBRet, ↓opObjI, ↓opNew, ↓opNewA, ↓opANew, ↓opAAStore, ↓opMNew, ↓opCallI, ↓wp_s, ↓wp_0, ↓popI_c, ↓popL_c, ↓popR_c, ↓pop1_i, ↓pop1_r, ↓ldI_0, ↓ldI_s, ↓ldL_0, ↓ldL_s, ↓ldR_0, ↓ldR_s, ↓stL_0, ↓stL_s, ↓tk_0, ↓tk_s, ↓Kc_s, ↓Kc_n, isS_0, isS_s, asP_c, gi_0, gi_s, noL_0, noL_s, isW_n, isW_i, isW_r, rcv_c, rcvT_c, swK_0, swK_s, catS, or_false, false_or, not_false_eq_true, not_true_eq_false, true_implies, false_implies, and_true, true_and, ↓reduceIte, Nat.reduceAdd, Nat.reduceLT, Nat.reduceLeDiff, Nat.reduceEqDiff, Nat.reduceSub, forall_const, eq_self, and_self, or_true, true_or, hG.o 3 9 rfl rfl, ↓asP_h (hG.p 3 0 4 rfl rfl), ↓asP_h (hG.p 3 1 12 rfl rfl), ↓asP_h (hG.p 3 2 14 rfl rfl), hG.o 14 100 rfl rfl, (hG.o 14 100 rfl rfl).A, hG.l 14 4 rfl rfl, hG.o 4 8 rfl rfl, ↓asP_h (hG.p 4 5 7 rfl rfl), hG.o 7 6 rfl rfl, ↓asP_h (hG.p 7 0 8 rfl rfl), hG.o 8 100 rfl rfl, (hG.o 8 100 rfl rfl).A, hG.l 8 12 rfl rfl, ↓asP_h (hG.p 7 1 9 rfl rfl), hG.o 9 100 rfl rfl, (hG.o 9 100 rfl rfl).A, hG.l 9 12 rfl rfl, ↓asP_h (hG.p 7 2 10 rfl rfl), hG.o 10 100 rfl rfl, (hG.o 10 100 rfl rfl).A, hG.l 10 12 rfl rfl, ↓asP_h (hG.p 7 3 11 rfl rfl), hG.o 11 100 rfl rfl, (hG.o 11 100 rfl rfl).A, hG.l 11 12 rfl rfl, vpL (i := 0) (n := 4) (by decide), vpL (i := 1) (n := 4) (by decide), vpL (i := 2) (n := 4) (by decide), vpL (i := 3) (n := 4) (by decide), show (0 : Int32).toNatClampNeg = 0 by decide, show (1 : Int32).toNatClampNeg = 1 by decide, show (2 : Int32).toNatClampNeg = 2 by decide, show (3 : Int32).toNatClampNeg = 3 by decide, w14, w4, up2_ne, ne_eq, Nat.reduceEqDiff, e1, e2, nI_1]
  rw [up2_pI (by decide), up2_pI (by decide), up2_pI (by decide), up2_pI (by decide), up2_pI (by decide)]
  rfl
/-- a clause of a town's text: memory, place, fault -/
def tcF (L : Nat) (I : IM) (a : Nat) (F : Int32) : IM × Nat × Int32 :=
  if nxR (I 2) L a F = 115 ∧ I 3 3 = 0 then (rrI I (rrF I L (nxA (I 2) L a F) F).2.2, (rrF I L (nxA (I 2) L a F) F).1, (rrF I L (nxA (I 2) L a F) F).2.1)
  else if nxR (I 2) L a F = 112 ∧ ¬ 5 ≤ I 4 0 then (rpI I (rpF I L (nxA (I 2) L a F) F).2.2 (I 4 0).toNatClampNeg, (rpF I L (nxA (I 2) L a F) F).1, (rpF I L (nxA (I 2) L a F) F).2.1)
  else if nxR (I 2) L a F = 103 ∧ ¬ 10 ≤ I 4 1 then (rgI I (rgF I L (nxA (I 2) L a F) F).2.2 (I 4 1).toNatClampNeg, (rgF I L (nxA (I 2) L a F) F).1, (rgF I L (nxA (I 2) L a F) F).2.1)
  else (I, nxA (I 2) L a F, wrF (nxA (I 2) L a F) F)
/-- while a town is read -/
def TRok (L : Nat) (I : IM) : Prop := I 12 1 = nI L ∧ rng (I 4 0) 5 ∧ rng (I 4 1) 10
set_option maxRecDepth 100000 in
set_option maxHeartbeats 4000000 in
theorem c_readClauseT (hG : GTs G) (hs : isSg G 12) (hv : GVn G) (hI : TRok L I) (hL2 : L ≤ 240) {a : Nat} (ha : a ≤ L) (F : Int32) : Run E (d + 6) mX9_readClause [.ref 3] (0, 0) G (pI I 12 a F) none G (pI (tcF L I a F).1 12 (tcF L I a F).2.1 (tcF L I a F).2.2) := by
  obtain ⟨hL, ⟨p, hp, hp2⟩, ⟨g, hg, hg2⟩⟩ := hI
  have hnx := c_next (E := E) (d := d + 5) (I := I) hs hL hL2 ha F
  have ha1 := nxA_le (I 2) F ha
  unfold tcF
  generalize nxR (I 2) L a F = r at hnx ⊢
  generalize nxA (I 2) L a F = a1 at hnx ha1 ⊢
  have w3 : pI I 12 a1 F 3 3 = I 3 3 := by rw [pI_ne (by decide)]
  have w4 : ∀ k, pI I 12 a1 F 4 k = I 4 k := fun k => by rw [pI_ne (by decide)]
  have tail : Ex E (d + 6) mX9_readClause (fun x b c => x = none ∧ b = G ∧ c = pI I 12 a1 (wrF a1 F)) 77 [some (.ref 3), some (.int r)] [] (0, 0) G (pI I 12 a1 F) := by
    refine Ex.run TX9_readClause [] 60 ?_
    simp only [↓tX9_readClause, ↓opPush, ↓opILoad, ↓opLLoad, ↓opALoad, ↓opIStore, ↓opAStore, ↓opLStore, ↓opIInc, ↓opI1, ↓opII, ↓opID, ↓opLL, ↓opLD, ↓opLI, ↓opI2L, ↓opL2I, ↓opLcmp, ↓opDup, ↓opDupX1, ↓opDup2, ↓opPop, ↓opIf1, ↓opIf2, ↓opGoto, ↓opIRet, ↓opZRet, ↓opLRet, ↓opVRet, ↓opGetI, ↓opGetL, ↓opGetR, ↓opPutI, ↓opPutZ, ↓opPutL, ↓opPutR, ↓opIALoad, ↓opBALoad, ↓opZALoad, ↓opLALoad, ↓opAALoad, ↓opIAStore, ↓opZAStore, ↓opLAStore, ↓opALen, ↓opGetS, ↓opGetC, ↓opStrV, ↓opStrC, ↓opCallV, ↓opCallS, ↓opSw, ↓opCopy, ↓opCallT, ↓opBRet, ↓opObjI, ↓opNew, ↓opNewA, ↓opANew, ↓opAAStore, ↓opMNew, ↓opCallI, ↓wp_s, ↓wp_0, ↓popI_c, ↓popL_c, ↓popR_c, ↓pop1_i, ↓pop1_r, ↓ldI_0, ↓ldI_s, ↓ldL_0, ↓ldL_s, ↓ldR_0, ↓ldR_s, ↓stL_0, ↓stL_s, ↓tk_0, ↓tk_s, ↓Kc_s, ↓Kc_n, isS_0, isS_s, asP_c, gi_0, gi_s, noL_0, noL_s, isW_n, isW_i, isW_r, rcv_c, rcvT_c, swK_0, swK_s, catS, or_false, false_or, not_false_eq_true, not_true_eq_false, true_implies, false_implies, and_true, true_and, ↓reduceIte, Nat.reduceAdd, Nat.reduceLT, Nat.reduceLeDiff, Nat.reduceEqDiff, Nat.reduceSub, forall_const, eq_self, and_self, or_true, true_or, hG.o 3 9 rfl rfl, ↓asP_h (hG.p 3 1 12 rfl rfl), hs.1]
    refine ⟨_, _, _, _, rfl, c_wrong hs a1 F, ?_⟩
    simp only [↓tX9_readClause, ↓opPush, ↓opILoad, ↓opLLoad, ↓opALoad, ↓opIStore, ↓opAStore, ↓opLStore, ↓opIInc, ↓opI1, ↓opII, ↓opID, ↓opLL, ↓opLD, ↓opLI, ↓opI2L, ↓opL2I, ↓opLcmp, ↓opDup, ↓opDupX1, ↓opDup2, ↓opPop, ↓opIf1, ↓opIf2, ↓opGoto, ↓opIRet, ↓opZRet, ↓opLRet, ↓opVRet, ↓opGetI, ↓opGetL, ↓opGetR, ↓opPutI, ↓opPutZ, ↓opPutL, ↓opPutR, ↓opIALoad, ↓opBALoad, ↓opZALoad, ↓opLALoad, ↓opAALoad, ↓opIAStore, ↓opZAStore, ↓opLAStore, ↓opALen, ↓opGetS, ↓opGetC, ↓opStrV, ↓opStrC, ↓opCallV, ↓opCallS, ↓opSw, ↓opCopy, ↓opCallT, ↓opBRet, ↓opObjI, ↓opNew, ↓opNewA, ↓opANew, ↓opAAStore, ↓opMNew, ↓opCallI, ↓wp_s, ↓wp_0, ↓popI_c, ↓popL_c, ↓popR_c, ↓pop1_i, ↓pop1_r, ↓ldI_0, ↓ldI_s, ↓ldL_0, ↓ldL_s, ↓ldR_0, ↓ldR_s, ↓stL_0, ↓stL_s, ↓tk_0, ↓tk_s, ↓Kc_s, ↓Kc_n, isS_0, isS_s, asP_c, gi_0, gi_s, noL_0, noL_s, isW_n, isW_i, isW_r, rcv_c, rcvT_c, swK_0, swK_s, catS, or_false, false_or, not_false_eq_true, not_true_eq_false, true_implies, false_implies, and_true, true_and, ↓reduceIte, Nat.reduceAdd, Nat.reduceLT, Nat.reduceLeDiff, Nat.reduceEqDiff, Nat.reduceSub, forall_const, eq_self, and_self, or_true, true_or]
  refine Ct.run okX9_readClause TX9_readClause [8] 60 rfl rfl ?_
  simp only [↓tX9_readClause, ↓opPush, ↓opILoad, ↓opLLoad, ↓opALoad, ↓opIStore, ↓opAStore, ↓opLStore, ↓opIInc, ↓opI1, ↓opII, ↓opID, ↓opLL, ↓opLD, ↓opLI, ↓opI2L, ↓opL2I, ↓opLcmp, ↓opDup, ↓opDupX1, ↓opDup2, ↓opPop, ↓opIf1, ↓opIf2, ↓opGoto, ↓opIRet, ↓opZRet, ↓opLRet, ↓opVRet, ↓opGetI, ↓opGetL, ↓opGetR, ↓opPutI, ↓opPutZ, ↓opPutL, ↓opPutR, ↓opIALoad, ↓opBALoad, ↓opZALoad, ↓opLALoad, ↓opAALoad, ↓opIAStore, ↓opZAStore, ↓opLAStore, ↓opALen, ↓opGetS, ↓opGetC, ↓opStrV, ↓opStrC, ↓opCallV, ↓opCallS, ↓opSw, ↓opCopy, ↓opCallT, ↓opBRet, ↓opObjI, ↓opNew, ↓opNewA, ↓opANew, ↓opAAStore, ↓opMNew, ↓opCallI, ↓wp_s, ↓wp_0, ↓popI_c, ↓popL_c, ↓popR_c, ↓pop1_i, ↓pop1_r, ↓ldI_0, ↓ldI_s, ↓ldL_0, ↓ldL_s, ↓ldR_0, ↓ldR_s, ↓stL_0, ↓stL_s, ↓tk_0, ↓tk_s, ↓Kc_s, ↓Kc_n, isS_0, isS_s, asP_c, gi_0, gi_s, noL_0, noL_s, isW_n, isW_i, isW_r, rcv_c, rcvT_c, swK_0, swK_s, catS, or_false, false_or, not_false_eq_true, not_true_eq_false, true_implies, false_implies, and_true, true_and, ↓reduceIte, Nat.reduceAdd, Nat.reduceLT, Nat.reduceLeDiff, Nat.reduceEqDiff, Nat.reduceSub, forall_const, eq_self, and_self, or_true, true_or, lve_i, lve_r, lve_l, lve_0, List.replicate_succ, List.replicate_zero, mX, mX9_readClause, hG.o 3 9 rfl rfl, ↓asP_h (hG.p 3 1 12 rfl rfl), hs.1]
  refine ⟨_, _, _, _, rfl, hnx, ?_⟩
  simp only [↓tX9_readClause, ↓opPush, ↓opILoad, ↓opLLoad, ↓opALoad, ↓opIStore, ↓opAStore, ↓opLStore, ↓opIInc, ↓opI1, ↓opII, ↓opID, ↓opLL, ↓opLD, ↓opLI, ↓opI2L, ↓opL2I, ↓opLcmp, ↓opDup, ↓opDupX1, ↓opDup2, ↓opPop, ↓opIf1, ↓opIf2, ↓opGoto, ↓opIRet, ↓opZRet, ↓opLRet, ↓opVRet, ↓opGetI, ↓opGetL, ↓opGetR, ↓opPutI, ↓opPutZ, ↓opPutL, ↓opPutR, ↓opIALoad, ↓opBALoad, ↓opZALoad, ↓opLALoad, ↓opAALoad, ↓opIAStore, ↓opZAStore, ↓opLAStore, ↓opALen, ↓opGetS, ↓opGetC, ↓opStrV, ↓opStrC, ↓opCallV, ↓opCallS, ↓opSw, ↓opCopy, ↓opCallT, ↓opBRet, ↓opObjI, ↓opNew, ↓opNewA, ↓opANew, ↓opAAStore, ↓opMNew, ↓opCallI, ↓wp_s, ↓wp_0, ↓popI_c, ↓popL_c, ↓popR_c, ↓pop1_i, ↓pop1_r, ↓ldI_0, ↓ldI_s, ↓ldL_0, ↓ldL_s, ↓ldR_0, ↓ldR_s, ↓stL_0, ↓stL_s, ↓tk_0, ↓tk_s, ↓Kc_s, ↓Kc_n, isS_0, isS_s, asP_c, gi_0, gi_s, noL_0, noL_s, isW_n, isW_i, isW_r, rcv_c, rcvT_c, swK_0, swK_s, catS, or_false, false_or, not_false_eq_true, not_true_eq_false, true_implies, false_implies, and_true, true_and, ↓reduceIte, Nat.reduceAdd, Nat.reduceLT, Nat.reduceLeDiff, Nat.reduceEqDiff, Nat.reduceSub, forall_const, eq_self, and_self, or_true, true_or]
  by_cases c1 : r = 115
  · subst c1
    by_cases c2 : I 3 3 = 0
    · rw [if_pos ⟨rfl, c2⟩]
      refine Ex.run TX9_readClause [] 60 ?_
      simp only [↓tX9_readClause, ↓opPush, ↓opILoad, ↓opLLoad, ↓opALoad, ↓opIStore, ↓opAStore, ↓opLStore, ↓opIInc, ↓opI1, ↓opII, ↓opID, ↓opLL, ↓opLD, ↓opLI, ↓opI2L, ↓opL2I, ↓opLcmp, ↓opDup, ↓opDupX1, ↓opDup2, ↓opPop, ↓opIf1, ↓opIf2, ↓opGoto, ↓opIRet, ↓opZRet, ↓opLRet, ↓opVRet, ↓opGetI, ↓opGetL, ↓opGetR, ↓opPutI, ↓opPutZ, ↓opPutL, ↓opPutR, ↓opIALoad, ↓opBALoad, ↓opZALoad, ↓opLALoad, ↓opAALoad, ↓opIAStore, ↓opZAStore, ↓opLAStore, ↓opALen, ↓opGetS, ↓opGetC, ↓opStrV, ↓opStrC, ↓opCallV, ↓opCallS, ↓opSw, ↓opCopy, ↓opCallT, ↓opBRet, ↓opObjI, ↓opNew, ↓opNewA, ↓opANew, ↓opAAStore, ↓opMNew, ↓opCallI, ↓wp_s, ↓wp_0, ↓popI_c, ↓popL_c, ↓popR_c, ↓pop1_i, ↓pop1_r, ↓ldI_0, ↓ldI_s, ↓ldL_0, ↓ldL_s, ↓ldR_0, ↓ldR_s, ↓stL_0, ↓stL_s, ↓tk_0, ↓tk_s, ↓Kc_s, ↓Kc_n, isS_0, isS_s, asP_c, gi_0, gi_s, noL_0, noL_s, isW_n, isW_i, isW_r, rcv_c, rcvT_c, swK_0, swK_s, catS, or_false, false_or, not_false_eq_true, not_true_eq_false, true_implies, false_implies, and_true, true_and, ↓reduceIte, Nat.reduceAdd, Nat.reduceLT, Nat.reduceLeDiff, Nat.reduceEqDiff, Nat.reduceSub, forall_const, eq_self, and_self, or_true, true_or, hG.o 3 9 rfl rfl, ↓asP_h (hG.p 3 1 12 rfl rfl), w3, c2]
      refine ⟨_, _, _, _, rfl, c_readRules hG hs hv hL hL2 ha1 F, ?_⟩
      simp only [↓tX9_readClause, ↓opPush, ↓opILoad, ↓opLLoad, ↓opALoad, ↓opIStore, ↓opAStore, ↓opLStore, ↓opIInc, ↓opI1, ↓opII, ↓opID, ↓opLL, ↓opLD, ↓opLI, ↓opI2L, ↓opL2I, ↓opLcmp, ↓opDup, ↓opDupX1, ↓opDup2, ↓opPop, ↓opIf1, ↓opIf2, ↓opGoto, ↓opIRet, ↓opZRet, ↓opLRet, ↓opVRet, ↓opGetI, ↓opGetL, ↓opGetR, ↓opPutI, ↓opPutZ, ↓opPutL, ↓opPutR, ↓opIALoad, ↓opBALoad, ↓opZALoad, ↓opLALoad, ↓opAALoad, ↓opIAStore, ↓opZAStore, ↓opLAStore, ↓opALen, ↓opGetS, ↓opGetC, ↓opStrV, ↓opStrC, ↓opCallV, ↓opCallS, ↓opSw, ↓opCopy, ↓opCallT, ↓opBRet, ↓opObjI, ↓opNew, ↓opNewA, ↓opANew, ↓opAAStore, ↓opMNew, ↓opCallI, ↓wp_s, ↓wp_0, ↓popI_c, ↓popL_c, ↓popR_c, ↓pop1_i, ↓pop1_r, ↓ldI_0, ↓ldI_s, ↓ldL_0, ↓ldL_s, ↓ldR_0, ↓ldR_s, ↓stL_0, ↓stL_s, ↓tk_0, ↓tk_s, ↓Kc_s, ↓Kc_n, isS_0, isS_s, asP_c, gi_0, gi_s, noL_0, noL_s, isW_n, isW_i, isW_r, rcv_c, rcvT_c, swK_0, swK_s, catS, or_false, false_or, not_false_eq_true, not_true_eq_false, true_implies, false_implies, and_true, true_and, ↓reduceIte, Nat.reduceAdd, Nat.reduceLT, Nat.reduceLeDiff, Nat.reduceEqDiff, Nat.reduceSub, forall_const, eq_self, and_self, or_true, true_or]
    · rw [if_neg (fun q => c2 q.2), if_neg (fun q => absurd q.1 (by decide)), if_neg (fun q => absurd q.1 (by decide))]
      refine Ex.run TX9_readClause [77] 60 ?_
      simp only [↓tX9_readClause, ↓opPush, ↓opILoad, ↓opLLoad, ↓opALoad, ↓opIStore, ↓opAStore, ↓opLStore, ↓opIInc, ↓opI1, ↓opII, ↓opID, ↓opLL, ↓opLD, ↓opLI, ↓opI2L, ↓opL2I, ↓opLcmp, ↓opDup, ↓opDupX1, ↓opDup2, ↓opPop, ↓opIf1, ↓opIf2, ↓opGoto, ↓opIRet, ↓opZRet, ↓opLRet, ↓opVRet, ↓opGetI, ↓opGetL, ↓opGetR, ↓opPutI, ↓opPutZ, ↓opPutL, ↓opPutR, ↓opIALoad, ↓opBALoad, ↓opZALoad, ↓opLALoad, ↓opAALoad, ↓opIAStore, ↓opZAStore, ↓opLAStore, ↓opALen, ↓opGetS, ↓opGetC, ↓opStrV, ↓opStrC, ↓opCallV, ↓opCallS, ↓opSw, ↓opCopy, ↓opCallT, ↓opBRet, ↓opObjI, ↓opNew, ↓opNewA, ↓opANew, ↓opAAStore, ↓opMNew, ↓opCallI, ↓wp_s, ↓wp_0, ↓popI_c, ↓popL_c, ↓popR_c, ↓pop1_i, ↓pop1_r, ↓ldI_0, ↓ldI_s, ↓ldL_0, ↓ldL_s, ↓ldR_0, ↓ldR_s, ↓stL_0, ↓stL_s, ↓tk_0, ↓tk_s, ↓Kc_s, ↓Kc_n, isS_0, isS_s, asP_c, gi_0, gi_s, noL_0, noL_s, isW_n, isW_i, isW_r, rcv_c, rcvT_c, swK_0, swK_s, catS, or_false, false_or, not_false_eq_true, not_true_eq_false, true_implies, false_implies, and_true, true_and, ↓reduceIte, Nat.reduceAdd, Nat.reduceLT, Nat.reduceLeDiff, Nat.reduceEqDiff, Nat.reduceSub, forall_const, eq_self, and_self, or_true, true_or, hG.o 3 9 rfl rfl, ↓asP_h (hG.p 3 1 12 rfl rfl), w3, c2, show ¬ (115 : Int32) = 112 by decide, show ¬ (115 : Int32) = 103 by decide]
      exact tail
  · rw [if_neg (fun q => c1 q.1)]
    by_cases c3 : r = 112 ∧ ¬ 5 ≤ I 4 0
    · rw [if_pos c3]
      obtain ⟨rfl, c4⟩ := c3
      have hp5 : p < 5 := by
        by_cases z : p = 5
        · exact absurd (by rw [hp2, z]; decide) c4
        · omega
      refine Ex.run TX9_readClause [] 60 ?_
      simp only [↓tX9_readClause, ↓opPush, ↓opILoad, ↓opLLoad, ↓opALoad, ↓opIStore, ↓opAStore, ↓opLStore, ↓opIInc, ↓opI1, ↓opII, ↓opID, ↓opLL, ↓opLD, ↓opLI, ↓opI2L, ↓opL2I, ↓opLcmp, ↓opDup, ↓opDupX1, ↓opDup2, ↓opPop, ↓opIf1, ↓opIf2, ↓opGoto, ↓opIRet, ↓opZRet, ↓opLRet, ↓opVRet, ↓opGetI, ↓opGetL, ↓opGetR, ↓opPutI, ↓opPutZ, ↓opPutL, ↓opPutR, ↓opIALoad, ↓opBALoad, ↓opZALoad, ↓opLALoad, ↓opAALoad, ↓opIAStore, ↓opZAStore, ↓opLAStore, ↓opALen, ↓opGetS, ↓opGetC, ↓opStrV, ↓opStrC, ↓opCallV, ↓opCallS, ↓opSw, ↓opCopy, ↓opCallT, ↓opBRet, ↓opObjI, ↓opNew, ↓opNewA, ↓opANew, ↓opAAStore, ↓opMNew, ↓opCallI, ↓wp_s, ↓wp_0, ↓popI_c, ↓popL_c, ↓popR_c, ↓pop1_i, ↓pop1_r, ↓ldI_0, ↓ldI_s, ↓ldL_0, ↓ldL_s, ↓ldR_0, ↓ldR_s, ↓stL_0, ↓stL_s, ↓tk_0, ↓tk_s, ↓Kc_s, ↓Kc_n, isS_0, isS_s, asP_c, gi_0, gi_s, noL_0, noL_s, isW_n, isW_i, isW_r, rcv_c, rcvT_c, swK_0, swK_s, catS, or_false, false_or, not_false_eq_true, not_true_eq_false, true_implies, false_implies, and_true, true_and, ↓reduceIte, Nat.reduceAdd, Nat.reduceLT, Nat.reduceLeDiff, Nat.reduceEqDiff, Nat.reduceSub, forall_const, eq_self, and_self, or_true, true_or, hG.o 3 9 rfl rfl, ↓asP_h (hG.p 3 0 4 rfl rfl), ↓asP_h (hG.p 3 1 12 rfl rfl), hG.o 4 8 rfl rfl, c1, w4, c4]
      rw [hp2, nI_clamp (n := p) (by omega)]
      refine ⟨_, _, _, _, rfl, c_readPerson hG hs hv hL hL2 hp5 hp2 ha1 F, ?_⟩
      simp only [↓tX9_readClause, ↓opPush, ↓opILoad, ↓opLLoad, ↓opALoad, ↓opIStore, ↓opAStore, ↓opLStore, ↓opIInc, ↓opI1, ↓opII, ↓opID, ↓opLL, ↓opLD, ↓opLI, ↓opI2L, ↓opL2I, ↓opLcmp, ↓opDup, ↓opDupX1, ↓opDup2, ↓opPop, ↓opIf1, ↓opIf2, ↓opGoto, ↓opIRet, ↓opZRet, ↓opLRet, ↓opVRet, ↓opGetI, ↓opGetL, ↓opGetR, ↓opPutI, ↓opPutZ, ↓opPutL, ↓opPutR, ↓opIALoad, ↓opBALoad, ↓opZALoad, ↓opLALoad, ↓opAALoad, ↓opIAStore, ↓opZAStore, ↓opLAStore, ↓opALen, ↓opGetS, ↓opGetC, ↓opStrV, ↓opStrC, ↓opCallV, ↓opCallS, ↓opSw, ↓opCopy, ↓opCallT, ↓opBRet, ↓opObjI, ↓opNew, ↓opNewA, ↓opANew, ↓opAAStore, ↓opMNew, ↓opCallI, ↓wp_s, ↓wp_0, ↓popI_c, ↓popL_c, ↓popR_c, ↓pop1_i, ↓pop1_r, ↓ldI_0, ↓ldI_s, ↓ldL_0, ↓ldL_s, ↓ldR_0, ↓ldR_s, ↓stL_0, ↓stL_s, ↓tk_0, ↓tk_s, ↓Kc_s, ↓Kc_n, isS_0, isS_s, asP_c, gi_0, gi_s, noL_0, noL_s, isW_n, isW_i, isW_r, rcv_c, rcvT_c, swK_0, swK_s, catS, or_false, false_or, not_false_eq_true, not_true_eq_false, true_implies, false_implies, and_true, true_and, ↓reduceIte, Nat.reduceAdd, Nat.reduceLT, Nat.reduceLeDiff, Nat.reduceEqDiff, Nat.reduceSub, forall_const, eq_self, and_self, or_true, true_or]
    · rw [if_neg c3]
      have c3' : r = 112 → 5 ≤ I 4 0 := fun q => Decidable.not_not.mp (fun z => c3 ⟨q, z⟩)
      by_cases c5 : r = 103 ∧ ¬ 10 ≤ I 4 1
      · rw [if_pos c5]
        obtain ⟨rfl, c6⟩ := c5
        have hg5 : g < 10 := by
          by_cases z : g = 10
          · exact absurd (by rw [hg2, z]; decide) c6
          · omega
        refine Ex.run TX9_readClause [] 60 ?_
        simp only [↓tX9_readClause, ↓opPush, ↓opILoad, ↓opLLoad, ↓opALoad, ↓opIStore, ↓opAStore, ↓opLStore, ↓opIInc, ↓opI1, ↓opII, ↓opID, ↓opLL, ↓opLD, ↓opLI, ↓opI2L, ↓opL2I, ↓opLcmp, ↓opDup, ↓opDupX1, ↓opDup2, ↓opPop, ↓opIf1, ↓opIf2, ↓opGoto, ↓opIRet, ↓opZRet, ↓opLRet, ↓opVRet, ↓opGetI, ↓opGetL, ↓opGetR, ↓opPutI, ↓opPutZ, ↓opPutL, ↓opPutR, ↓opIALoad, ↓opBALoad, ↓opZALoad, ↓opLALoad, ↓opAALoad, ↓opIAStore, ↓opZAStore, ↓opLAStore, ↓opALen, ↓opGetS, ↓opGetC, ↓opStrV, ↓opStrC, ↓opCallV, ↓opCallS, ↓opSw, ↓opCopy, ↓opCallT, ↓opBRet, ↓opObjI, ↓opNew, ↓opNewA, ↓opANew, ↓opAAStore, ↓opMNew, ↓opCallI, ↓wp_s, ↓wp_0, ↓popI_c, ↓popL_c, ↓popR_c, ↓pop1_i, ↓pop1_r, ↓ldI_0, ↓ldI_s, ↓ldL_0, ↓ldL_s, ↓ldR_0, ↓ldR_s, ↓stL_0, ↓stL_s, ↓tk_0, ↓tk_s, ↓Kc_s, ↓Kc_n, isS_0, isS_s, asP_c, gi_0, gi_s, noL_0, noL_s, isW_n, isW_i, isW_r, rcv_c, rcvT_c, swK_0, swK_s, catS, or_false, false_or, not_false_eq_true, not_true_eq_false, true_implies, false_implies, and_true, true_and, ↓reduceIte, Nat.reduceAdd, Nat.reduceLT, Nat.reduceLeDiff, Nat.reduceEqDiff, Nat.reduceSub, forall_const, eq_self, and_self, or_true, true_or, hG.o 3 9 rfl rfl, ↓asP_h (hG.p 3 0 4 rfl rfl), ↓asP_h (hG.p 3 1 12 rfl rfl), hG.o 4 8 rfl rfl, c1, w4, c6, show ¬ (103 : Int32) = 112 by decide]
        rw [hg2, nI_clamp (n := g) (by omega)]
        refine ⟨_, _, _, _, rfl, c_readGrudge hG hs hv hL hL2 hg5 hg2 ha1 F, ?_⟩
        simp only [↓tX9_readClause, ↓opPush, ↓opILoad, ↓opLLoad, ↓opALoad, ↓opIStore, ↓opAStore, ↓opLStore, ↓opIInc, ↓opI1, ↓opII, ↓opID, ↓opLL, ↓opLD, ↓opLI, ↓opI2L, ↓opL2I, ↓opLcmp, ↓opDup, ↓opDupX1, ↓opDup2, ↓opPop, ↓opIf1, ↓opIf2, ↓opGoto, ↓opIRet, ↓opZRet, ↓opLRet, ↓opVRet, ↓opGetI, ↓opGetL, ↓opGetR, ↓opPutI, ↓opPutZ, ↓opPutL, ↓opPutR, ↓opIALoad, ↓opBALoad, ↓opZALoad, ↓opLALoad, ↓opAALoad, ↓opIAStore, ↓opZAStore, ↓opLAStore, ↓opALen, ↓opGetS, ↓opGetC, ↓opStrV, ↓opStrC, ↓opCallV, ↓opCallS, ↓opSw, ↓opCopy, ↓opCallT, ↓opBRet, ↓opObjI, ↓opNew, ↓opNewA, ↓opANew, ↓opAAStore, ↓opMNew, ↓opCallI, ↓wp_s, ↓wp_0, ↓popI_c, ↓popL_c, ↓popR_c, ↓pop1_i, ↓pop1_r, ↓ldI_0, ↓ldI_s, ↓ldL_0, ↓ldL_s, ↓ldR_0, ↓ldR_s, ↓stL_0, ↓stL_s, ↓tk_0, ↓tk_s, ↓Kc_s, ↓Kc_n, isS_0, isS_s, asP_c, gi_0, gi_s, noL_0, noL_s, isW_n, isW_i, isW_r, rcv_c, rcvT_c, swK_0, swK_s, catS, or_false, false_or, not_false_eq_true, not_true_eq_false, true_implies, false_implies, and_true, true_and, ↓reduceIte, Nat.reduceAdd, Nat.reduceLT, Nat.reduceLeDiff, Nat.reduceEqDiff, Nat.reduceSub, forall_const, eq_self, and_self, or_true, true_or]
      · rw [if_neg c5]
        have c5' : r = 103 → 10 ≤ I 4 1 := fun q => Decidable.not_not.mp (fun z => c5 ⟨q, z⟩)
        refine Ex.run TX9_readClause [77] 60 ?_
        simp only [↓tX9_readClause, ↓opPush, ↓opILoad, ↓opLLoad, ↓opALoad, ↓opIStore, ↓opAStore, ↓opLStore, ↓opIInc, ↓opI1, ↓opII, ↓opID, ↓opLL, ↓opLD, ↓opLI, ↓opI2L, ↓opL2I, ↓opLcmp, ↓opDup, ↓opDupX1, ↓opDup2, ↓opPop, ↓opIf1, ↓opIf2, ↓opGoto, ↓opIRet, ↓opZRet, ↓opLRet, ↓opVRet, ↓opGetI, ↓opGetL, ↓opGetR, ↓opPutI, ↓opPutZ, ↓opPutL, ↓opPutR, ↓opIALoad, ↓opBALoad, ↓opZALoad, ↓opLALoad, ↓opAALoad, ↓opIAStore, ↓opZAStore, ↓opLAStore, ↓opALen, ↓opGetS, ↓opGetC, ↓opStrV, ↓opStrC, ↓opCallV, ↓opCallS, ↓opSw, ↓opCopy, ↓opCallT, ↓opBRet, ↓opObjI, ↓opNew, ↓opNewA, ↓opANew, ↓opAAStore, ↓opMNew, ↓opCallI, ↓wp_s, ↓wp_0, ↓popI_c, ↓popL_c, ↓popR_c, ↓pop1_i, ↓pop1_r, ↓ldI_0, ↓ldI_s, ↓ldL_0, ↓ldL_s, ↓ldR_0, ↓ldR_s, ↓stL_0, ↓stL_s, ↓tk_0, ↓tk_s, ↓Kc_s, ↓Kc_n, isS_0, isS_s, asP_c, gi_0, gi_s, noL_0, noL_s, isW_n, isW_i, isW_r, rcv_c, rcvT_c, swK_0, swK_s, catS, or_false, false_or, not_false_eq_true, not_true_eq_false, true_implies, false_implies, and_true, true_and, ↓reduceIte, Nat.reduceAdd, Nat.reduceLT, Nat.reduceLeDiff, Nat.reduceEqDiff, Nat.reduceSub, forall_const, eq_self, and_self, or_true, true_or, hG.o 3 9 rfl rfl, ↓asP_h (hG.p 3 0 4 rfl rfl), ↓asP_h (hG.p 3 1 12 rfl rfl), hG.o 4 8 rfl rfl, c1, w4]
        refine ⟨fun q => ⟨fun _ => ⟨fun q2 => absurd (q.symm.trans q2) (by decide), fun _ => tail⟩, fun z => absurd (c3' q) z⟩, fun q => ⟨fun q2 => ⟨fun _ => tail, fun z => absurd (c5' q2) z⟩, fun _ => tail⟩⟩
end
