/-! ===== GrudgeTown$TownReader (3): draft 4, reader 12, items 14 ===== -/
theorem up2_pI {I : IM} {s a b k : Nat} {F v : Int32} (h : b ≠ s) : up2 (pI I s a F) b k v = pI (up2 I b k v) s a F := by
  funext c j
  unfold pI up2
  by_cases h1 : c = b
  · subst h1
    simp [h]
  · simp [h1]
/-- row b is it -/
def rwI (I : IM) (b : Nat) (it : Nat → Int32) : IM := upr I b it
theorem rwI_self (I : IM) (b : Nat) : rwI I b (I b) = I := by
  funext c j
  unfold rwI upr
  split
  · rename_i h; rw [h]
  · rfl
theorem rwI_at (I : IM) (b : Nat) (it : Nat → Int32) : rwI I b it b = it := by
  funext j
  simp [rwI, upr]
theorem rwI_ne {I : IM} {b c : Nat} {it : Nat → Int32} (h : c ≠ b) : rwI I b it c = I c := upr_ne h
theorem rwI_up (I : IM) (b k : Nat) (it : Nat → Int32) (v : Int32) : up2 (rwI I b it) b k v = rwI I b (upd it k v) := by
  funext c j
  unfold up2 rwI upr upd
  by_cases h1 : c = b
  · by_cases h2 : j = k <;> simp [h1, h2]
  · simp [h1]
theorem rwI_rwI (I : IM) (b : Nat) (it it' : Nat → Int32) : rwI (rwI I b it) b it' = rwI I b it' := by
  funext c j
  unfold rwI upr
  by_cases h1 : c = b <;> simp [h1]
/-- the items of a clause: lt their letters (n of them), lo and hi their bounds -/
def itm (lt : Nat → Int32) (n : Nat) (r : Int32) : Int32 := if r = -1 then -1 else ixR lt n (r.toUInt32 % 65536).toInt32
def riL (row : Nat → Int32) (L : Nat) (lt : Nat → Int32) (n : Nat) (lo hi : Nat → Int32) : Nat → Int32 → Nat → Int32 → (Nat → Int32) → Nat × Int32 × (Nat → Int32)
  | 0, _, a, F, it => (a, F, it)
  | k + 1, had, a, F, it =>
    if itm lt n (nxR row L a F) < 0 ∨ inT had (itm lt n (nxR row L a F)) then (nxA row L a F, F, it)
    else riL row L lt n lo hi k (had ||| bitI (itm lt n (nxR row L a F))) (nmF row L 2 (tkA L (nxA row L a F)) F).2.1
      (if (nmF row L 2 (tkA L (nxA row L a F)) F).1 < lo (itm lt n (nxR row L a F)).toNatClampNeg ∨ ¬ (nmF row L 2 (tkA L (nxA row L a F)) F).1 ≤ hi (itm lt n (nxR row L a F)).toNatClampNeg then (if (nmF row L 2 (tkA L (nxA row L a F)) F).2.2 = -1 then nI (nmF row L 2 (tkA L (nxA row L a F)) F).2.1 - 1 else (nmF row L 2 (tkA L (nxA row L a F)) F).2.2) else (nmF row L 2 (tkA L (nxA row L a F)) F).2.2)
      (upd it (itm lt n (nxR row L a F)).toNatClampNeg (nmF row L 2 (tkA L (nxA row L a F)) F).1)
theorem ixL_rng (row : Nat → Int32) (b : Int32) : ∀ n k, ixL row b n k = -1 ∨ ∃ j, j < k + n ∧ ixL row b n k = nI j
  | 0, k => Or.inl rfl
  | n + 1, k => by
    unfold ixL
    split
    · exact Or.inr ⟨k, by omega, rfl⟩
    · rcases ixL_rng row b n (k + 1) with h | ⟨j, h1, h2⟩
      · exact Or.inl h
      · exact Or.inr ⟨j, by omega, h2⟩
theorem itm_rng (lt : Nat → Int32) (n : Nat) (r : Int32) : itm lt n r = -1 ∨ ∃ j, j < n ∧ itm lt n r = nI j := by
  unfold itm
  split
  · exact Or.inl rfl
  · unfold ixR
    split
    · exact Or.inl rfl
    · rcases ixL_rng lt (Int32.toInt8 _).toInt32 n 0 with h | ⟨j, h1, h2⟩
      · exact Or.inl h
      · exact Or.inr ⟨j, by omega, h2⟩
theorem riL_le (row : Nat → Int32) (L : Nat) (lt : Nat → Int32) (n : Nat) (lo hi : Nat → Int32) : ∀ k had a F it, a ≤ L → (riL row L lt n lo hi k had a F it).1 ≤ L
  | 0, had, a, F, it, h => h
  | k + 1, had, a, F, it, h => by
    unfold riL
    split
    · exact nxA_le row F h
    · exact riL_le row L lt n lo hi k _ _ _ _ (nmF_le row F (tkA_le (nxA_le row F h)))
section
variable {E : EV} {d : Nat} {G : GD} {I : IM} {L : Nat}
set_option maxRecDepth 100000 in
set_option maxHeartbeats 4000000 in
theorem c_setItems (hG : GTs G) (x y z w : Int32) : Run E d mX9_setItems [.ref 3, .int x, .int y, .int z, .int w] (0, 0) G I none G (up2 (up2 (up2 (up2 I 14 0 x) 14 1 y) 14 2 z) 14 3 w) := by
  refine Ct.run okX9_setItems TX9_setItems [] 60 rfl rfl ?_
  simp only [↓tX9_setItems, ↓opPush, ↓opILoad, ↓opLLoad, ↓opALoad, ↓opIStore, ↓opAStore, ↓opLStore, ↓opIInc, ↓opI1, ↓opII, ↓opID, ↓opLL, ↓opLD, ↓opLI, ↓opI2L, ↓opL2I, ↓opLcmp, ↓opDup, ↓opDupX1, ↓opDup2, ↓opPop, ↓opIf1, ↓opIf2, ↓opGoto, ↓opIRet, ↓opZRet, ↓opLRet, ↓opVRet, ↓opGetI, ↓opGetL, ↓opGetR, ↓opPutI, ↓opPutZ, ↓opPutL, ↓opPutR, ↓opIALoad, ↓opBALoad, ↓opZALoad, ↓opLALoad, ↓opAALoad, ↓opIAStore, ↓opZAStore, ↓opLAStore, ↓opALen, ↓opGetS, ↓opGetC, ↓opStrV, ↓opStrC, ↓opCallV, ↓opCallS, ↓opSw, ↓opCopy, ↓opCallT, ↓opBRet, ↓opObjI, ↓opNew, ↓opNewA, ↓opANew, ↓opAAStore, ↓opMNew, ↓opCallI, ↓wp_s, ↓wp_0, ↓popI_c, ↓popL_c, ↓popR_c, ↓pop1_i, ↓pop1_r, ↓ldI_0, ↓ldI_s, ↓ldL_0, ↓ldL_s, ↓ldR_0, ↓ldR_s, ↓stL_0, ↓stL_s, ↓tk_0, ↓tk_s, ↓Kc_s, ↓Kc_n, isS_0, isS_s, asP_c, gi_0, gi_s, noL_0, noL_s, isW_n, isW_i, isW_r, rcv_c, rcvT_c, swK_0, swK_s, catS, or_false, false_or, not_false_eq_true, not_true_eq_false, true_implies, false_implies, and_true, true_and, ↓reduceIte, Nat.reduceAdd, Nat.reduceLT, Nat.reduceLeDiff, Nat.reduceEqDiff, Nat.reduceSub, forall_const, eq_self, and_self, or_true, true_or, lve_i, lve_r, lve_l, lve_0, List.replicate_succ, List.replicate_zero, mX, mX9_setItems, hG.o 3 9 rfl rfl, ↓asP_h (hG.p 3 2 14 rfl rfl), hG.o 14 100 rfl rfl, (hG.o 14 100 rfl rfl).A, hG.l 14 4 rfl rfl, vpL (i := 0) (n := 4) (by decide), vpL (i := 1) (n := 4) (by decide), vpL (i := 2) (n := 4) (by decide), vpL (i := 3) (n := 4) (by decide), show (0 : Int32).toNatClampNeg = 0 by decide, show (1 : Int32).toNatClampNeg = 1 by decide, show (2 : Int32).toNatClampNeg = 2 by decide, show (3 : Int32).toNatClampNeg = 3 by decide]
set_option maxRecDepth 100000 in
set_option maxHeartbeats 4000000 in
theorem c_readItems (hG : GTs G) (hs : isSg G 12) (hL : I 12 1 = nI L) (hL2 : L ≤ 240) {t n lo hi : Nat} (ht : 100007 ≤ t ∧ t < 100011) (hl : gL G (t + 6) = n) (hn0 : 0 < n) (hn : n ≤ 4) (hlo : okA G lo ∧ gL G lo = n) (hhi : okA G hi ∧ gL G hi = n) (hlh : 100000 ≤ lo ∧ 100000 ≤ hi) {a : Nat} (ha : a ≤ L) (F : Int32) (it : Nat → Int32) :
    Run E (d + 4) mX9_readItems [.ref 3, .ref t, .ref lo, .ref hi] (0, 0) G (pI (rwI I 14 it) 12 a F) none G (pI (rwI I 14 (riL (I 2) L (I (t + 6)) n (I lo) (I hi) (n + 1) 0 (tkA L a) F it).2.2) 12 (riL (I 2) L (I (t + 6)) n (I lo) (I hi) (n + 1) 0 (tkA L a) F it).1 (riL (I 2) L (I (t + 6)) n (I lo) (I hi) (n + 1) 0 (tkA L a) F it).2.1) := by
  have w12 : ∀ it, rwI I 14 it 12 1 = nI L := fun it => by rw [rwI_ne (by decide)]; exact hL
  have w2 : ∀ it, rwI I 14 it 2 = I 2 := fun it => rwI_ne (by decide)
  have wt : ∀ it a F, pI (rwI I 14 it) 12 a F (t + 6) = I (t + 6) := fun it a F => by rw [pI_ne (by omega), rwI_ne (by omega)]
  have wlo : ∀ it a F, pI (rwI I 14 it) 12 a F lo = I lo := fun it a F => by rw [pI_ne (by omega), rwI_ne (by omega)]
  have whi : ∀ it a F, pI (rwI I 14 it) 12 a F hi = I hi := fun it a F => by rw [pI_ne (by omega), rwI_ne (by omega)]
  have w14 : ∀ it a F, pI (rwI I 14 it) 12 a F 14 = it := fun it a F => by rw [pI_ne (by decide), rwI_at]
  have key : ∀ (k : Nat) (j : Nat) (had : Int32) (a : Nat) (F : Int32) (it : Nat → Int32), j + k = n + 1 → a ≤ L → Ex E (d + 4) mX9_readItems (fun x b c => x = none ∧ b = G ∧ c = pI (rwI I 14 (riL (I 2) L (I (t + 6)) n (I lo) (I hi) k had a F it).2.2) 12 (riL (I 2) L (I (t + 6)) n (I lo) (I hi) k had a F it).1 (riL (I 2) L (I (t + 6)) n (I lo) (I hi) k had a F it).2.1) 13 [some (.ref 3), some (.ref t), some (.ref lo), some (.ref hi), some (.int had), some (.int (nI j)), none, none] [] (0, 0) G (pI (rwI I 14 it) 12 a F) := by
    intro k
    induction k with
    | zero =>
      intro j had a F it hj ha
      refine Ex.run TX9_readItems [13] 60 ?_
      simp only [↓tX9_readItems, ↓opPush, ↓opILoad, ↓opLLoad, ↓opALoad, ↓opIStore, ↓opAStore, ↓opLStore, ↓opIInc, ↓opI1, ↓opII, ↓opID, ↓opLL, ↓opLD, ↓opLI, ↓opI2L, ↓opL2I, ↓opLcmp, ↓opDup, ↓opDupX1, ↓opDup2, ↓opPop, ↓opIf1, ↓opIf2, ↓opGoto, ↓opIRet, ↓opZRet, ↓opLRet, ↓opVRet, ↓opGetI, ↓opGetL, ↓opGetR, ↓opPutI, ↓opPutZ, ↓opPutL, ↓opPutR, ↓opIALoad, ↓opBALoad, ↓opZALoad, ↓opLALoad, ↓opAALoad, ↓opIAStore, ↓opZAStore, ↓opLAStore, ↓opALen, ↓opGetS, ↓opGetC, ↓opStrV, ↓opStrC, ↓opCallV, ↓opCallS, ↓opSw, ↓opCopy, ↓opCallT, ↓opBRet, ↓opObjI, ↓opNew, ↓opNewA, ↓opANew, ↓opAAStore, ↓opMNew, ↓opCallI, ↓wp_s, ↓wp_0, ↓popI_c, ↓popL_c, ↓popR_c, ↓pop1_i, ↓pop1_r, ↓ldI_0, ↓ldI_s, ↓ldL_0, ↓ldL_s, ↓ldR_0, ↓ldR_s, ↓stL_0, ↓stL_s, ↓tk_0, ↓tk_s, ↓Kc_s, ↓Kc_n, isS_0, isS_s, asP_c, gi_0, gi_s, noL_0, noL_s, isW_n, isW_i, isW_r, rcv_c, rcvT_c, swK_0, swK_s, catS, or_false, false_or, not_false_eq_true, not_true_eq_false, true_implies, false_implies, and_true, true_and, ↓reduceIte, Nat.reduceAdd, Nat.reduceLT, Nat.reduceLeDiff, Nat.reduceEqDiff, Nat.reduceSub, forall_const, eq_self, and_self, or_true, true_or, ht.1, ht.2]
      refine ⟨_, _, _, _, rfl, c_strLen ht hl, ?_⟩
      simp only [↓tX9_readItems, ↓opPush, ↓opILoad, ↓opLLoad, ↓opALoad, ↓opIStore, ↓opAStore, ↓opLStore, ↓opIInc, ↓opI1, ↓opII, ↓opID, ↓opLL, ↓opLD, ↓opLI, ↓opI2L, ↓opL2I, ↓opLcmp, ↓opDup, ↓opDupX1, ↓opDup2, ↓opPop, ↓opIf1, ↓opIf2, ↓opGoto, ↓opIRet, ↓opZRet, ↓opLRet, ↓opVRet, ↓opGetI, ↓opGetL, ↓opGetR, ↓opPutI, ↓opPutZ, ↓opPutL, ↓opPutR, ↓opIALoad, ↓opBALoad, ↓opZALoad, ↓opLALoad, ↓opAALoad, ↓opIAStore, ↓opZAStore, ↓opLAStore, ↓opALen, ↓opGetS, ↓opGetC, ↓opStrV, ↓opStrC, ↓opCallV, ↓opCallS, ↓opSw, ↓opCopy, ↓opCallT, ↓opBRet, ↓opObjI, ↓opNew, ↓opNewA, ↓opANew, ↓opAAStore, ↓opMNew, ↓opCallI, ↓wp_s, ↓wp_0, ↓popI_c, ↓popL_c, ↓popR_c, ↓pop1_i, ↓pop1_r, ↓ldI_0, ↓ldI_s, ↓ldL_0, ↓ldL_s, ↓ldR_0, ↓ldR_s, ↓stL_0, ↓stL_s, ↓tk_0, ↓tk_s, ↓Kc_s, ↓Kc_n, isS_0, isS_s, asP_c, gi_0, gi_s, noL_0, noL_s, isW_n, isW_i, isW_r, rcv_c, rcvT_c, swK_0, swK_s, catS, or_false, false_or, not_false_eq_true, not_true_eq_false, true_implies, false_implies, and_true, true_and, ↓reduceIte, Nat.reduceAdd, Nat.reduceLT, Nat.reduceLeDiff, Nat.reduceEqDiff, Nat.reduceSub, forall_const, eq_self, and_self, or_true, true_or, eq_true (nI_lt (show n < j by omega) (by omega))]
      rfl
    | succ k ih =>
      intro j had a F it hj ha
      have hnx := c_next (E := E) (d := d + 3) (I := rwI I 14 it) hs (w12 it) hL2 ha F
      rw [w2] at hnx
      generalize hr : nxR (I 2) L a F = r at hnx
      generalize ha1 : nxA (I 2) L a F = a1 at hnx
      have ha1L : a1 ≤ L := by rw [← ha1]; exact nxA_le _ F ha
      -- behind the item's number
      have p50 : ∀ v : Int32, v = itm (I (t + 6)) n r → Ex E (d + 4) mX9_readItems (fun x b c => x = none ∧ b = G ∧ c = pI (rwI I 14 (riL (I 2) L (I (t + 6)) n (I lo) (I hi) (k + 1) had a F it).2.2) 12 (riL (I 2) L (I (t + 6)) n (I lo) (I hi) (k + 1) had a F it).1 (riL (I 2) L (I (t + 6)) n (I lo) (I hi) (k + 1) had a F it).2.1) 48 [some (.ref 3), some (.ref t), some (.ref lo), some (.ref hi), some (.int had), some (.int (nI j)), some (.int r), none] [.int v] (0, 0) G (pI (rwI I 14 it) 12 a1 F) := by
        intro v hv
        by_cases c : v < 0 ∨ inT had v
        · rw [show riL (I 2) L (I (t + 6)) n (I lo) (I hi) (k + 1) had a F it = (a1, F, it) from by
            show (if itm (I (t + 6)) n (nxR (I 2) L a F) < 0 ∨ inT had (itm (I (t + 6)) n (nxR (I 2) L a F)) then (nxA (I 2) L a F, F, it) else _) = _
            rw [hr, ha1, ← hv, if_pos c]]
          refine Ex.run TX9_readItems [13] 60 ?_
          simp only [↓tX9_readItems, ↓opPush, ↓opILoad, ↓opLLoad, ↓opALoad, ↓opIStore, ↓opAStore, ↓opLStore, ↓opIInc, ↓opI1, ↓opII, ↓opID, ↓opLL, ↓opLD, ↓opLI, ↓opI2L, ↓opL2I, ↓opLcmp, ↓opDup, ↓opDupX1, ↓opDup2, ↓opPop, ↓opIf1, ↓opIf2, ↓opGoto, ↓opIRet, ↓opZRet, ↓opLRet, ↓opVRet, ↓opGetI, ↓opGetL, ↓opGetR, ↓opPutI, ↓opPutZ, ↓opPutL, ↓opPutR, ↓opIALoad, ↓opBALoad, ↓opZALoad, ↓opLALoad, ↓opAALoad, ↓opIAStore, ↓opZAStore, ↓opLAStore, ↓opALen, ↓opGetS, ↓opGetC, ↓opStrV, ↓opStrC, ↓opCallV, ↓opCallS, ↓opSw, ↓opCopy, ↓opCallT, ↓opBRet, ↓opObjI, ↓opNew, ↓opNewA, ↓opANew, ↓opAAStore, ↓opMNew, ↓opCallI, ↓wp_s, ↓wp_0, ↓popI_c, ↓popL_c, ↓popR_c, ↓pop1_i, ↓pop1_r, ↓ldI_0, ↓ldI_s, ↓ldL_0, ↓ldL_s, ↓ldR_0, ↓ldR_s, ↓stL_0, ↓stL_s, ↓tk_0, ↓tk_s, ↓Kc_s, ↓Kc_n, isS_0, isS_s, asP_c, gi_0, gi_s, noL_0, noL_s, isW_n, isW_i, isW_r, rcv_c, rcvT_c, swK_0, swK_s, catS, or_false, false_or, not_false_eq_true, not_true_eq_false, true_implies, false_implies, and_true, true_and, ↓reduceIte, Nat.reduceAdd, Nat.reduceLT, Nat.reduceLeDiff, Nat.reduceEqDiff, Nat.reduceSub, forall_const, eq_self, and_self, or_true, true_or]
          refine ⟨fun c1 => trivial, fun c1 => ⟨fun c2 => trivial, fun c2 => ?_⟩⟩
          exact absurd c (by rintro (q | q); exact c1 q; exact c2 q)
        · have c1 : ¬ v < 0 := fun q => c (Or.inl q)
          have c2 : ¬ inT had v := fun q => c (Or.inr q)
          obtain ⟨i, hi4, ei⟩ : ∃ i, i < n ∧ v = nI i := by
            rcases itm_rng (I (t + 6)) n r with q | ⟨i, q1, q2⟩
            · exact absurd (show v < 0 by rw [hv, q]; decide) c1
            · exact ⟨i, q1, by rw [hv, q2]⟩
          have hum := c_number (E := E) (d := d + 2) (I := rwI I 14 it) hs (w12 it) hL2 (m := 2) (tkA_le ha1L) (by decide) F
          rw [w2] at hum
          have hrec : riL (I 2) L (I (t + 6)) n (I lo) (I hi) (k + 1) had a F it = riL (I 2) L (I (t + 6)) n (I lo) (I hi) k (had ||| bitI v) (nmF (I 2) L 2 (tkA L a1) F).2.1 (if (nmF (I 2) L 2 (tkA L a1) F).1 < I lo i ∨ ¬ (nmF (I 2) L 2 (tkA L a1) F).1 ≤ I hi i then (if (nmF (I 2) L 2 (tkA L a1) F).2.2 = -1 then nI (nmF (I 2) L 2 (tkA L a1) F).2.1 - 1 else (nmF (I 2) L 2 (tkA L a1) F).2.2) else (nmF (I 2) L 2 (tkA L a1) F).2.2) (upd it i (nmF (I 2) L 2 (tkA L a1) F).1) := by
            show (if itm (I (t + 6)) n (nxR (I 2) L a F) < 0 ∨ inT had (itm (I (t + 6)) n (nxR (I 2) L a F)) then (nxA (I 2) L a F, F, it) else _) = _
            rw [hr, ha1, ← hv, if_neg c, ei, nI_clamp (by omega)]
          rw [hrec]
          generalize hq : nmF (I 2) L 2 (tkA L a1) F = q at hum ⊢
          have hqL : q.2.1 ≤ L := by rw [← hq]; exact nmF_le _ F (tkA_le ha1L)
          have ih1 := fun F' => ih (j + 1) (had ||| bitI v) q.2.1 F' (upd it i q.1) (by omega) hqL
          rw [nI_succ] at ih1
          have v4 : vp_in v 4 := by rw [ei]; exact vp_in_nI (by omega) (by decide)
          have vn : vp_in v n := by rw [ei]; exact vp_in_nI hi4 (by omega)
          have ci : v.toNatClampNeg = i := by rw [ei]; exact nI_clamp (by omega)
          have e14 : ∀ F, up2 (pI (rwI I 14 it) 12 q.2.1 F) 14 i q.1 = pI (rwI I 14 (upd it i q.1)) 12 q.2.1 F := fun F => by rw [up2_pI (by decide), rwI_up]
          have u14 : ∀ F, pI (rwI I 14 (upd it i q.1)) 12 q.2.1 F 14 i = q.1 := fun F => by rw [w14]; simp [upd]
          refine Ex.run TX9_readItems [13] 90 ?_
          simp only [↓tX9_readItems, ↓opPush, ↓opILoad, ↓opLLoad, ↓opALoad, ↓opIStore, ↓opAStore, ↓opLStore, ↓opIInc, ↓opI1, ↓opII, ↓opID, ↓opLL, ↓opLD, ↓opLI, ↓opI2L, ↓opL2I, ↓opLcmp, ↓opDup, ↓opDupX1, ↓opDup2, ↓opPop, ↓opIf1, ↓opIf2, ↓opGoto, ↓opIRet, ↓opZRet, ↓opLRet, ↓opVRet, ↓opGetI, ↓opGetL, ↓opGetR, ↓opPutI, ↓opPutZ, ↓opPutL, ↓opPutR, ↓opIALoad, ↓opBALoad, ↓opZALoad, ↓opLALoad, ↓opAALoad, ↓opIAStore, ↓opZAStore, ↓opLAStore, ↓opALen, ↓opGetS, ↓opGetC, ↓opStrV, ↓opStrC, ↓opCallV, ↓opCallS, ↓opSw, ↓opCopy, ↓opCallT, ↓opBRet, ↓opObjI, ↓opNew, ↓opNewA, ↓opANew, ↓opAAStore, ↓opMNew, ↓opCallI, ↓wp_s, ↓wp_0, ↓popI_c, ↓popL_c, ↓popR_c, ↓pop1_i, ↓pop1_r, ↓ldI_0, ↓ldI_s, ↓ldL_0, ↓ldL_s, ↓ldR_0, ↓ldR_s, ↓stL_0, ↓stL_s, ↓tk_0, ↓tk_s, ↓Kc_s, ↓Kc_n, isS_0, isS_s, asP_c, gi_0, gi_s, noL_0, noL_s, isW_n, isW_i, isW_r, rcv_c, rcvT_c, swK_0, swK_s, catS, or_false, false_or, not_false_eq_true, not_true_eq_false, true_implies, false_implies, and_true, true_and, ↓reduceIte, Nat.reduceAdd, Nat.reduceLT, Nat.reduceLeDiff, Nat.reduceEqDiff, Nat.reduceSub, forall_const, eq_self, and_self, or_true, true_or, c1, c2, hG.o 3 9 rfl rfl, ↓asP_h (hG.p 3 1 12 rfl rfl), ↓asP_h (hG.p 3 2 14 rfl rfl), hG.o 14 100 rfl rfl, (hG.o 14 100 rfl rfl).A, hG.l 14 4 rfl rfl, hs.1]
          refine ⟨_, _, _, _, rfl, c_take (I := rwI I 14 it) hs (w12 it) hL2 ha1L F, ?_⟩
          simp only [↓tX9_readItems, ↓opPush, ↓opILoad, ↓opLLoad, ↓opALoad, ↓opIStore, ↓opAStore, ↓opLStore, ↓opIInc, ↓opI1, ↓opII, ↓opID, ↓opLL, ↓opLD, ↓opLI, ↓opI2L, ↓opL2I, ↓opLcmp, ↓opDup, ↓opDupX1, ↓opDup2, ↓opPop, ↓opIf1, ↓opIf2, ↓opGoto, ↓opIRet, ↓opZRet, ↓opLRet, ↓opVRet, ↓opGetI, ↓opGetL, ↓opGetR, ↓opPutI, ↓opPutZ, ↓opPutL, ↓opPutR, ↓opIALoad, ↓opBALoad, ↓opZALoad, ↓opLALoad, ↓opAALoad, ↓opIAStore, ↓opZAStore, ↓opLAStore, ↓opALen, ↓opGetS, ↓opGetC, ↓opStrV, ↓opStrC, ↓opCallV, ↓opCallS, ↓opSw, ↓opCopy, ↓opCallT, ↓opBRet, ↓opObjI, ↓opNew, ↓opNewA, ↓opANew, ↓opAAStore, ↓opMNew, ↓opCallI, ↓wp_s, ↓wp_0, ↓popI_c, ↓popL_c, ↓popR_c, ↓pop1_i, ↓pop1_r, ↓ldI_0, ↓ldI_s, ↓ldL_0, ↓ldL_s, ↓ldR_0, ↓ldR_s, ↓stL_0, ↓stL_s, ↓tk_0, ↓tk_s, ↓Kc_s, ↓Kc_n, isS_0, isS_s, asP_c, gi_0, gi_s, noL_0, noL_s, isW_n, isW_i, isW_r, rcv_c, rcvT_c, swK_0, swK_s, catS, or_false, false_or, not_false_eq_true, not_true_eq_false, true_implies, false_implies, and_true, true_and, ↓reduceIte, Nat.reduceAdd, Nat.reduceLT, Nat.reduceLeDiff, Nat.reduceEqDiff, Nat.reduceSub, forall_const, eq_self, and_self, or_true, true_or, hG.o 3 9 rfl rfl, ↓asP_h (hG.p 3 1 12 rfl rfl), ↓asP_h (hG.p 3 2 14 rfl rfl), hG.o 14 100 rfl rfl, (hG.o 14 100 rfl rfl).A, hG.l 14 4 rfl rfl, hs.1]
          refine ⟨_, _, _, _, rfl, hum, ?_⟩
          simp only [↓tX9_readItems, ↓opPush, ↓opILoad, ↓opLLoad, ↓opALoad, ↓opIStore, ↓opAStore, ↓opLStore, ↓opIInc, ↓opI1, ↓opII, ↓opID, ↓opLL, ↓opLD, ↓opLI, ↓opI2L, ↓opL2I, ↓opLcmp, ↓opDup, ↓opDupX1, ↓opDup2, ↓opPop, ↓opIf1, ↓opIf2, ↓opGoto, ↓opIRet, ↓opZRet, ↓opLRet, ↓opVRet, ↓opGetI, ↓opGetL, ↓opGetR, ↓opPutI, ↓opPutZ, ↓opPutL, ↓opPutR, ↓opIALoad, ↓opBALoad, ↓opZALoad, ↓opLALoad, ↓opAALoad, ↓opIAStore, ↓opZAStore, ↓opLAStore, ↓opALen, ↓opGetS, ↓opGetC, ↓opStrV, ↓opStrC, ↓opCallV, ↓opCallS, ↓opSw, ↓opCopy, ↓opCallT, ↓opBRet, ↓opObjI, ↓opNew, ↓opNewA, ↓opANew, ↓opAAStore, ↓opMNew, ↓opCallI, ↓wp_s, ↓wp_0, ↓popI_c, ↓popL_c, ↓popR_c, ↓pop1_i, ↓pop1_r, ↓ldI_0, ↓ldI_s, ↓ldL_0, ↓ldL_s, ↓ldR_0, ↓ldR_s, ↓stL_0, ↓stL_s, ↓tk_0, ↓tk_s, ↓Kc_s, ↓Kc_n, isS_0, isS_s, asP_c, gi_0, gi_s, noL_0, noL_s, isW_n, isW_i, isW_r, rcv_c, rcvT_c, swK_0, swK_s, catS, or_false, false_or, not_false_eq_true, not_true_eq_false, true_implies, false_implies, and_true, true_and, ↓reduceIte, Nat.reduceAdd, Nat.reduceLT, Nat.reduceLeDiff, Nat.reduceEqDiff, Nat.reduceSub, forall_const, eq_self, and_self, or_true, true_or, hG.o 3 9 rfl rfl, ↓asP_h (hG.p 3 1 12 rfl rfl), ↓asP_h (hG.p 3 2 14 rfl rfl), hG.o 14 100 rfl rfl, (hG.o 14 100 rfl rfl).A, hG.l 14 4 rfl rfl, hs.1, v4, vn, ci, e14, u14, wlo, whi, hlo.1, hlo.2, hhi.1, hhi.2]
          refine ⟨fun c3 => ?_, fun c3 => ⟨fun c4 => ?_, fun c4 => ?_⟩⟩
          · refine ⟨_, _, _, _, rfl, c_wrongAtLast (I := rwI I 14 (upd it i q.1)) hs q.2.1 q.2.2, ?_⟩
            simp only [↓tX9_readItems, ↓opPush, ↓opILoad, ↓opLLoad, ↓opALoad, ↓opIStore, ↓opAStore, ↓opLStore, ↓opIInc, ↓opI1, ↓opII, ↓opID, ↓opLL, ↓opLD, ↓opLI, ↓opI2L, ↓opL2I, ↓opLcmp, ↓opDup, ↓opDupX1, ↓opDup2, ↓opPop, ↓opIf1, ↓opIf2, ↓opGoto, ↓opIRet, ↓opZRet, ↓opLRet, ↓opVRet, ↓opGetI, ↓opGetL, ↓opGetR, ↓opPutI, ↓opPutZ, ↓opPutL, ↓opPutR, ↓opIALoad, ↓opBALoad, ↓opZALoad, ↓opLALoad, ↓opAALoad, ↓opIAStore, ↓opZAStore, ↓opLAStore, ↓opALen, ↓opGetS, ↓opGetC, ↓opStrV, ↓opStrC, ↓opCallV, ↓opCallS, ↓opSw, ↓opCopy, ↓opCallT, ↓opBRet, ↓opObjI, ↓opNew, ↓opNewA, ↓opANew, ↓opAAStore, ↓opMNew, ↓opCallI, ↓wp_s, ↓wp_0, ↓popI_c, ↓popL_c, ↓popR_c, ↓pop1_i, ↓pop1_r, ↓ldI_0, ↓ldI_s, ↓ldL_0, ↓ldL_s, ↓ldR_0, ↓ldR_s, ↓stL_0, ↓stL_s, ↓tk_0, ↓tk_s, ↓Kc_s, ↓Kc_n, isS_0, isS_s, asP_c, gi_0, gi_s, noL_0, noL_s, isW_n, isW_i, isW_r, rcv_c, rcvT_c, swK_0, swK_s, catS, or_false, false_or, not_false_eq_true, not_true_eq_false, true_implies, false_implies, and_true, true_and, ↓reduceIte, Nat.reduceAdd, Nat.reduceLT, Nat.reduceLeDiff, Nat.reduceEqDiff, Nat.reduceSub, forall_const, eq_self, and_self, or_true, true_or]
            rw [if_pos (Or.inl c3)]
            exact (ih1 _).weak ⟨rfl, rfl, rfl, rfl, rfl, rfl, trivial⟩
          · rw [if_neg (by rintro (z | z); exact c3 z; exact z c4)]
            exact (ih1 _).weak ⟨rfl, rfl, rfl, rfl, rfl, rfl, trivial⟩
          · refine ⟨_, _, _, _, rfl, c_wrongAtLast (I := rwI I 14 (upd it i q.1)) hs q.2.1 q.2.2, ?_⟩
            simp only [↓tX9_readItems, ↓opPush, ↓opILoad, ↓opLLoad, ↓opALoad, ↓opIStore, ↓opAStore, ↓opLStore, ↓opIInc, ↓opI1, ↓opII, ↓opID, ↓opLL, ↓opLD, ↓opLI, ↓opI2L, ↓opL2I, ↓opLcmp, ↓opDup, ↓opDupX1, ↓opDup2, ↓opPop, ↓opIf1, ↓opIf2, ↓opGoto, ↓opIRet, ↓opZRet, ↓opLRet, ↓opVRet, ↓opGetI, ↓opGetL, ↓opGetR, ↓opPutI, ↓opPutZ, ↓opPutL, ↓opPutR, ↓opIALoad, ↓opBALoad, ↓opZALoad, ↓opLALoad, ↓opAALoad, ↓opIAStore, ↓opZAStore, ↓opLAStore, ↓opALen, ↓opGetS, ↓opGetC, ↓opStrV, ↓opStrC, ↓opCallV, ↓opCallS, ↓opSw, ↓opCopy, ↓opCallT, ↓opBRet, ↓opObjI, ↓opNew, ↓opNewA, ↓opANew, ↓opAAStore, ↓opMNew, ↓opCallI, ↓wp_s, ↓wp_0, ↓popI_c, ↓popL_c, ↓popR_c, ↓pop1_i, ↓pop1_r, ↓ldI_0, ↓ldI_s, ↓ldL_0, ↓ldL_s, ↓ldR_0, ↓ldR_s, ↓stL_0, ↓stL_s, ↓tk_0, ↓tk_s, ↓Kc_s, ↓Kc_n, isS_0, isS_s, asP_c, gi_0, gi_s, noL_0, noL_s, isW_n, isW_i, isW_r, rcv_c, rcvT_c, swK_0, swK_s, catS, or_false, false_or, not_false_eq_true, not_true_eq_false, true_implies, false_implies, and_true, true_and, ↓reduceIte, Nat.reduceAdd, Nat.reduceLT, Nat.reduceLeDiff, Nat.reduceEqDiff, Nat.reduceSub, forall_const, eq_self, and_self, or_true, true_or]
            rw [if_pos (Or.inr c4)]
            exact (ih1 _).weak ⟨rfl, rfl, rfl, rfl, rfl, rfl, trivial⟩
      refine Ex.run TX9_readItems [13, 48] 60 ?_
      simp only [↓tX9_readItems, ↓opPush, ↓opILoad, ↓opLLoad, ↓opALoad, ↓opIStore, ↓opAStore, ↓opLStore, ↓opIInc, ↓opI1, ↓opII, ↓opID, ↓opLL, ↓opLD, ↓opLI, ↓opI2L, ↓opL2I, ↓opLcmp, ↓opDup, ↓opDupX1, ↓opDup2, ↓opPop, ↓opIf1, ↓opIf2, ↓opGoto, ↓opIRet, ↓opZRet, ↓opLRet, ↓opVRet, ↓opGetI, ↓opGetL, ↓opGetR, ↓opPutI, ↓opPutZ, ↓opPutL, ↓opPutR, ↓opIALoad, ↓opBALoad, ↓opZALoad, ↓opLALoad, ↓opAALoad, ↓opIAStore, ↓opZAStore, ↓opLAStore, ↓opALen, ↓opGetS, ↓opGetC, ↓opStrV, ↓opStrC, ↓opCallV, ↓opCallS, ↓opSw, ↓opCopy, ↓opCallT, ↓opBRet, ↓opObjI, ↓opNew, ↓opNewA, ↓opANew, ↓opAAStore, ↓opMNew, ↓opCallI, ↓wp_s, ↓wp_0, ↓popI_c, ↓popL_c, ↓popR_c, ↓pop1_i, ↓pop1_r, ↓ldI_0, ↓ldI_s, ↓ldL_0, ↓ldL_s, ↓ldR_0, ↓ldR_s, ↓stL_0, ↓stL_s, ↓tk_0, ↓tk_s, ↓Kc_s, ↓Kc_n, isS_0, isS_s, asP_c, gi_0, gi_s, noL_0, noL_s, isW_n, isW_i, isW_r, rcv_c, rcvT_c, swK_0, swK_s, catS, or_false, false_or, not_false_eq_true, not_true_eq_false, true_implies, false_implies, and_true, true_and, ↓reduceIte, Nat.reduceAdd, Nat.reduceLT, Nat.reduceLeDiff, Nat.reduceEqDiff, Nat.reduceSub, forall_const, eq_self, and_self, or_true, true_or, ht.1, ht.2]
      refine ⟨_, _, _, _, rfl, c_strLen ht hl, ?_⟩
      simp only [↓tX9_readItems, ↓opPush, ↓opILoad, ↓opLLoad, ↓opALoad, ↓opIStore, ↓opAStore, ↓opLStore, ↓opIInc, ↓opI1, ↓opII, ↓opID, ↓opLL, ↓opLD, ↓opLI, ↓opI2L, ↓opL2I, ↓opLcmp, ↓opDup, ↓opDupX1, ↓opDup2, ↓opPop, ↓opIf1, ↓opIf2, ↓opGoto, ↓opIRet, ↓opZRet, ↓opLRet, ↓opVRet, ↓opGetI, ↓opGetL, ↓opGetR, ↓opPutI, ↓opPutZ, ↓opPutL, ↓opPutR, ↓opIALoad, ↓opBALoad, ↓opZALoad, ↓opLALoad, ↓opAALoad, ↓opIAStore, ↓opZAStore, ↓opLAStore, ↓opALen, ↓opGetS, ↓opGetC, ↓opStrV, ↓opStrC, ↓opCallV, ↓opCallS, ↓opSw, ↓opCopy, ↓opCallT, ↓opBRet, ↓opObjI, ↓opNew, ↓opNewA, ↓opANew, ↓opAAStore, ↓opMNew, ↓opCallI, ↓wp_s, ↓wp_0, ↓popI_c, ↓popL_c, ↓popR_c, ↓pop1_i, ↓pop1_r, ↓ldI_0, ↓ldI_s, ↓ldL_0, ↓ldL_s, ↓ldR_0, ↓ldR_s, ↓stL_0, ↓stL_s, ↓tk_0, ↓tk_s, ↓Kc_s, ↓Kc_n, isS_0, isS_s, asP_c, gi_0, gi_s, noL_0, noL_s, isW_n, isW_i, isW_r, rcv_c, rcvT_c, swK_0, swK_s, catS, or_false, false_or, not_false_eq_true, not_true_eq_false, true_implies, false_implies, and_true, true_and, ↓reduceIte, Nat.reduceAdd, Nat.reduceLT, Nat.reduceLeDiff, Nat.reduceEqDiff, Nat.reduceSub, forall_const, eq_self, and_self, or_true, true_or, eq_false (nI_nlt (show j ≤ n by omega) (by omega)), hG.o 3 9 rfl rfl, ↓asP_h (hG.p 3 1 12 rfl rfl), hs.1]
      refine ⟨_, _, _, _, rfl, hnx, ?_⟩
      simp only [↓tX9_readItems, ↓opPush, ↓opILoad, ↓opLLoad, ↓opALoad, ↓opIStore, ↓opAStore, ↓opLStore, ↓opIInc, ↓opI1, ↓opII, ↓opID, ↓opLL, ↓opLD, ↓opLI, ↓opI2L, ↓opL2I, ↓opLcmp, ↓opDup, ↓opDupX1, ↓opDup2, ↓opPop, ↓opIf1, ↓opIf2, ↓opGoto, ↓opIRet, ↓opZRet, ↓opLRet, ↓opVRet, ↓opGetI, ↓opGetL, ↓opGetR, ↓opPutI, ↓opPutZ, ↓opPutL, ↓opPutR, ↓opIALoad, ↓opBALoad, ↓opZALoad, ↓opLALoad, ↓opAALoad, ↓opIAStore, ↓opZAStore, ↓opLAStore, ↓opALen, ↓opGetS, ↓opGetC, ↓opStrV, ↓opStrC, ↓opCallV, ↓opCallS, ↓opSw, ↓opCopy, ↓opCallT, ↓opBRet, ↓opObjI, ↓opNew, ↓opNewA, ↓opANew, ↓opAAStore, ↓opMNew, ↓opCallI, ↓wp_s, ↓wp_0, ↓popI_c, ↓popL_c, ↓popR_c, ↓pop1_i, ↓pop1_r, ↓ldI_0, ↓ldI_s, ↓ldL_0, ↓ldL_s, ↓ldR_0, ↓ldR_s, ↓stL_0, ↓stL_s, ↓tk_0, ↓tk_s, ↓Kc_s, ↓Kc_n, isS_0, isS_s, asP_c, gi_0, gi_s, noL_0, noL_s, isW_n, isW_i, isW_r, rcv_c, rcvT_c, swK_0, swK_s, catS, or_false, false_or, not_false_eq_true, not_true_eq_false, true_implies, false_implies, and_true, true_and, ↓reduceIte, Nat.reduceAdd, Nat.reduceLT, Nat.reduceLeDiff, Nat.reduceEqDiff, Nat.reduceSub, forall_const, eq_self, and_self, or_true, true_or, ht.1, ht.2]
      refine ⟨fun c => ?_, fun c => ?_⟩
      · exact p50 _ (by unfold itm; rw [if_pos c])
      · refine ⟨_, _, _, _, rfl, c_indexOf ht hl hn0 (by omega) _, ?_⟩
        simp only [↓tX9_readItems, ↓opPush, ↓opILoad, ↓opLLoad, ↓opALoad, ↓opIStore, ↓opAStore, ↓opLStore, ↓opIInc, ↓opI1, ↓opII, ↓opID, ↓opLL, ↓opLD, ↓opLI, ↓opI2L, ↓opL2I, ↓opLcmp, ↓opDup, ↓opDupX1, ↓opDup2, ↓opPop, ↓opIf1, ↓opIf2, ↓opGoto, ↓opIRet, ↓opZRet, ↓opLRet, ↓opVRet, ↓opGetI, ↓opGetL, ↓opGetR, ↓opPutI, ↓opPutZ, ↓opPutL, ↓opPutR, ↓opIALoad, ↓opBALoad, ↓opZALoad, ↓opLALoad, ↓opAALoad, ↓opIAStore, ↓opZAStore, ↓opLAStore, ↓opALen, ↓opGetS, ↓opGetC, ↓opStrV, ↓opStrC, ↓opCallV, ↓opCallS, ↓opSw, ↓opCopy, ↓opCallT, ↓opBRet, ↓opObjI, ↓opNew, ↓opNewA, ↓opANew, ↓opAAStore, ↓opMNew, ↓opCallI, ↓wp_s, ↓wp_0, ↓popI_c, ↓popL_c, ↓popR_c, ↓pop1_i, ↓pop1_r, ↓ldI_0, ↓ldI_s, ↓ldL_0, ↓ldL_s, ↓ldR_0, ↓ldR_s, ↓stL_0, ↓stL_s, ↓tk_0, ↓tk_s, ↓Kc_s, ↓Kc_n, isS_0, isS_s, asP_c, gi_0, gi_s, noL_0, noL_s, isW_n, isW_i, isW_r, rcv_c, rcvT_c, swK_0, swK_s, catS, or_false, false_or, not_false_eq_true, not_true_eq_false, true_implies, false_implies, and_true, true_and, ↓reduceIte, Nat.reduceAdd, Nat.reduceLT, Nat.reduceLeDiff, Nat.reduceEqDiff, Nat.reduceSub, forall_const, eq_self, and_self, or_true, true_or, wt]
        exact p50 _ (by unfold itm; rw [if_neg c])
  refine Ct.run okX9_readItems TX9_readItems [13] 60 rfl rfl ?_
  simp only [↓tX9_readItems, ↓opPush, ↓opILoad, ↓opLLoad, ↓opALoad, ↓opIStore, ↓opAStore, ↓opLStore, ↓opIInc, ↓opI1, ↓opII, ↓opID, ↓opLL, ↓opLD, ↓opLI, ↓opI2L, ↓opL2I, ↓opLcmp, ↓opDup, ↓opDupX1, ↓opDup2, ↓opPop, ↓opIf1, ↓opIf2, ↓opGoto, ↓opIRet, ↓opZRet, ↓opLRet, ↓opVRet, ↓opGetI, ↓opGetL, ↓opGetR, ↓opPutI, ↓opPutZ, ↓opPutL, ↓opPutR, ↓opIALoad, ↓opBALoad, ↓opZALoad, ↓opLALoad, ↓opAALoad, ↓opIAStore, ↓opZAStore, ↓opLAStore, ↓opALen, ↓opGetS, ↓opGetC, ↓opStrV, ↓opStrC, ↓opCallV, ↓opCallS, ↓opSw, ↓opCopy, ↓opCallT, ↓opBRet, ↓opObjI, ↓opNew, ↓opNewA, ↓opANew, ↓opAAStore, ↓opMNew, ↓opCallI, ↓wp_s, ↓wp_0, ↓popI_c, ↓popL_c, ↓popR_c, ↓pop1_i, ↓pop1_r, ↓ldI_0, ↓ldI_s, ↓ldL_0, ↓ldL_s, ↓ldR_0, ↓ldR_s, ↓stL_0, ↓stL_s, ↓tk_0, ↓tk_s, ↓Kc_s, ↓Kc_n, isS_0, isS_s, asP_c, gi_0, gi_s, noL_0, noL_s, isW_n, isW_i, isW_r, rcv_c, rcvT_c, swK_0, swK_s, catS, or_false, false_or, not_false_eq_true, not_true_eq_false, true_implies, false_implies, and_true, true_and, ↓reduceIte, Nat.reduceAdd, Nat.reduceLT, Nat.reduceLeDiff, Nat.reduceEqDiff, Nat.reduceSub, forall_const, eq_self, and_self, or_true, true_or, lve_i, lve_r, lve_l, lve_0, List.replicate_succ, List.replicate_zero, mX, mX9_readItems, hG.o 3 9 rfl rfl, ↓asP_h (hG.p 3 1 12 rfl rfl), hs.1]
  refine ⟨_, _, _, _, rfl, c_take (I := rwI I 14 it) hs (w12 it) hL2 ha F, ?_⟩
  simp only [↓tX9_readItems, ↓opPush, ↓opILoad, ↓opLLoad, ↓opALoad, ↓opIStore, ↓opAStore, ↓opLStore, ↓opIInc, ↓opI1, ↓opII, ↓opID, ↓opLL, ↓opLD, ↓opLI, ↓opI2L, ↓opL2I, ↓opLcmp, ↓opDup, ↓opDupX1, ↓opDup2, ↓opPop, ↓opIf1, ↓opIf2, ↓opGoto, ↓opIRet, ↓opZRet, ↓opLRet, ↓opVRet, ↓opGetI, ↓opGetL, ↓opGetR, ↓opPutI, ↓opPutZ, ↓opPutL, ↓opPutR, ↓opIALoad, ↓opBALoad, ↓opZALoad, ↓opLALoad, ↓opAALoad, ↓opIAStore, ↓opZAStore, ↓opLAStore, ↓opALen, ↓opGetS, ↓opGetC, ↓opStrV, ↓opStrC, ↓opCallV, ↓opCallS, ↓opSw, ↓opCopy, ↓opCallT, ↓opBRet, ↓opObjI, ↓opNew, ↓opNewA, ↓opANew, ↓opAAStore, ↓opMNew, ↓opCallI, ↓wp_s, ↓wp_0, ↓popI_c, ↓popL_c, ↓popR_c, ↓pop1_i, ↓pop1_r, ↓ldI_0, ↓ldI_s, ↓ldL_0, ↓ldL_s, ↓ldR_0, ↓ldR_s, ↓stL_0, ↓stL_s, ↓tk_0, ↓tk_s, ↓Kc_s, ↓Kc_n, isS_0, isS_s, asP_c, gi_0, gi_s, noL_0, noL_s, isW_n, isW_i, isW_r, rcv_c, rcvT_c, swK_0, swK_s, catS, or_false, false_or, not_false_eq_true, not_true_eq_false, true_implies, false_implies, and_true, true_and, ↓reduceIte, Nat.reduceAdd, Nat.reduceLT, Nat.reduceLeDiff, Nat.reduceEqDiff, Nat.reduceSub, forall_const, eq_self, and_self, or_true, true_or]
  exact key (n + 1) 0 0 (tkA L a) F it (by omega) (tkA_le ha)
end
