/-! ===== GrudgeTown: what is asked: rows, weights, whom, games, rests, most ===== -/
/-- the i-th of the m's with r m, as v m; with i = -1 how many there are -/
def cnF (r v : Nat → Int32) (i : Int32) : Nat → Nat → Int32 → Int32
  | 0, _, a => if i = -1 then a else -1
  | k + 1, m, a => if r m = 0 then cnF r v i k (m + 1) a else if a = i then v m else cnF r v i k (m + 1) (a + 1)
abbrev oTg (I : IM) (g : Int32) : Prop := ¬ g < 0 ∧ ¬ I 15 1 ≤ g
def ftB (I : IM) (g : Int32) (w : Nat) : Int32 := bInt (ftP I (I 256 5).toNatClampNeg g.toNatClampNeg (nI w))
def aWts (I : IM) (g i : Int32) : Int32 := if oTg I g then cnF (ftB I g) nI i 30 1 0 else -1
def whS (I : IM) (g n : Nat) (w : Nat) (ta : Nat → Int32) : Nat → Int32 := fun k => ta k + ((itr (I 15 2) n (ftV I g (nI w)) 0 4 >>> (nI k &&& 31)) &&& 1)
def whF (p : Nat → Int32) (s : Nat → (Nat → Int32) → Nat → Int32) : Nat → Nat → Int32 → (Nat → Int32) → Int32 × (Nat → Int32)
  | 0, _, a, t => (a, t)
  | k + 1, w, a, t => if p w = 0 then whF p s k (w + 1) a t else whF p s k (w + 1) (a + 1) (s w t)
def whR (I : IM) (g n : Int32) : Int32 × (Nat → Int32) := whF (ftB I g) (whS I g.toNatClampNeg n.toNatClampNeg) 30 1 0 (fun _ => 0)
abbrev oWhom (I : IM) (g n : Int32) : Prop := oTg I g ∧ ¬ n < 1 ∧ n ≤ 30
def aWhom (I : IM) (g n : Int32) : Int32 := if oWhom I g n then (if (whR I g n).1 = 0 then -1 else fold1 (evS (whR I g n).2 (whR I g n).1) ((I 15 0).toNatClampNeg - 1) 0) else -1
abbrev isC (x : Int32) : Prop := ¬ x < 0 ∧ ¬ 3 ≤ x
def gm1 (I : IM) (p q x y : Int32) : Int32 := gmR I p q x y p - prc x
def gm2 (I : IM) (p q x y : Int32) : Int32 := gmR I p q x y q - prc y
def aGame (I : IM) (p q x y w : Int32) : Int32 := if are2T I p q ∧ isC x ∧ isC y then (if w = 0 then gm1 I p q x y else if w = 1 then gm2 I p q x y else -1000000) else -1000000
abbrev rsM (I : IM) (p q : Int32) (x y : Nat) : Prop := ∀ k, k < 3 → ¬ gm1 I p q (nI x) (nI y) < gm1 I p q (nI k) (nI y) ∧ ¬ gm2 I p q (nI x) (nI y) < gm2 I p q (nI x) (nI k)
def aRests (I : IM) (p q i : Int32) : Int32 := if are2T I p q then cnF (fun m => bInt (rsM I p q (m / 3) (m % 3))) (fun m => 10 * nI (m / 3) + nI (m % 3)) i 9 0 0 else -1
def aMost (I : IM) (w : Int32) : Int32 := if I 15 0 ≤ 0 then -1 else
  if w = 0 then mbF (getS I 36) 1 (I 15 0).toNatClampNeg else
  if w = 1 then mbF (getS I 36) (-1) (I 15 0).toNatClampNeg else
  if w = 2 then fold1 (soS (getS I 36)) ((I 15 0).toNatClampNeg - 1) 0 else
  if w = 3 then fold1 (liS (I 17)) ((I 15 0).toNatClampNeg - 1) 0 else
  if w = 4 then huF (I 39) else
  if w = 5 then I 36 4 else
  if w = 6 then hlF (I 39) (I 40) (I 37) (I 36 4) 0 else
  if w = 7 then hbF (I 39) (I 40) 0 &&& (hbF (I 39) (I 40) (I 15 2) ^^^ -1) else
  if w = 8 then waF (I 39) (hbF (I 39) (I 40) 0) else
  if w = 9 then 12 - bcI (hbF (I 39) (I 40) 0) else
  if w = 10 then foldN (tr2 (getS I 36) (I 15 0).toNatClampNeg) (I 15 0).toNatClampNeg 0 else
  if w = 11 then I 36 4 &&& (unF (I 39) (I 40) (I 37) (I 38) (I 36 4) (I 15 2) ^^^ -1) else -1
theorem eqZ.row {I J : IM} (h : eqZ I J) {b : Nat} (hb : ∀ k, ¬ scr b k) : J b = I b := by
  funext k
  exact h b k (hb k)
theorem eqZ.at' {I J : IM} (h : eqZ I J) {b k : Nat} (hb : ¬ scr b k) : J b k = I b k := h b k hb
theorem scr_n {b : Nat} (h : b = 0 ∨ b = 1 ∨ b = 2 ∨ 15 ≤ b ∧ b ≤ 22 ∨ 28 ≤ b ∧ b ≤ 33 ∨ 36 ≤ b ∧ b ≤ 259 ∨ b = 262 ∨ b = 263 ∨ 311 ≤ b) : ∀ k, ¬ scr b k := by
  intro k
  unfold scr
  omega
theorem scr_27 {k : Nat} (h : k ≠ 4) : ¬ scr 27 k := by
  unfold scr
  omega
theorem LawOK.Z {I J : IM} (h : eqZ I J) (hL : LawOK I) : LawOK J := by
  obtain ⟨told, ht, h5, h6, h7⟩ := hL
  refine ⟨told, ht, by rw [h 27 5 (scr_27 (by decide))]; exact h5, by rw [h 27 6 (scr_27 (by decide))]; exact h6, fun k hk => ?_⟩
  obtain ⟨len, a, b, c⟩ := h7 k hk
  refine ⟨len, a, by rw [h.row (b := 33) (scr_n (by omega))]; exact b, ?_⟩
  rw [h.row (b := 29 + k) (scr_n (by omega))]
  exact c
theorem wgt_Z {I J : IM} (h : eqZ I J) (hL : LawOK I) : wgt J = wgt I := by
  funext V p q
  unfold wgt lawW
  rw [h 27 6 (scr_27 (by decide)), h.row (b := 16) (scr_n (by omega)), h.row (b := 17) (scr_n (by omega)), h.row (b := 33) (scr_n (by omega))]
  by_cases c : I 27 6 = -1
  · rw [if_pos c, if_pos c]
  · obtain ⟨told, ht, h5, h6, -⟩ := hL
    obtain ⟨k, hk, e⟩ := h6.resolve_left c
    rw [if_neg c, if_neg c, e, nI_clamp (by omega), h.row (b := 29 + k) (scr_n (by omega))]
theorem getS_Z {I J : IM} (h : eqZ I J) {i : Nat} (hi : i = 18 ∨ 36 ≤ i ∧ i ≤ 255) : eqS (getS J i) (getS I i) := fun r k hr => by
  have : r ≤ 4 := by unfold inSt at hr; omega
  unfold getS
  rw [h.row (b := i + r) (scr_n (by omega))]
theorem chV_Z {I J : IM} (h : eqZ I J) (hL : LawOK I) (V : SV) (p q c : Int32) : chV J V p q c = chV I V p q c := by
  unfold chV
  rw [wgt_Z h hL]
theorem gmR_Z {I J : IM} (h : eqZ I J) (hL : LawOK I) (p q x y w : Int32) : gmR J p q x y w = gmR I p q x y w := by
  have e : eqS (gmV J (getS J 36) p q x y) (gmV I (getS I 36) p q x y) := by
    have e1 := eqS_gm (I := I) (getS_Z h (i := 36) (by omega)) p q x y
    unfold gmV at e1 ⊢
    rw [chV_Z h hL, chV_Z h hL]
    exact e1
  unfold gmR
  rw [e 0 4 in04, h 15 2 (scr_n (by omega) _), eqS_st 20 0 e]
theorem eqS_up {V W : SV} (h : eqS V W) (r k : Nat) (v : Int32) : eqS (up2 V r k v) (up2 W r k v) := fun a b hb => by
  unfold up2
  by_cases c : a = r
  · subst c
    rw [if_pos rfl, if_pos rfl]
    by_cases c2 : b = k
    · rw [if_pos c2, if_pos c2]
    · rw [if_neg c2, if_neg c2, h a b hb]
  · rw [if_neg c, if_neg c, h a b hb]
theorem ftV_Z {I J : IM} (h : eqZ I J) (g : Nat) (w : Int32) : eqS (ftV J g w) (ftV I g w) := eqS_up (getS_Z h (i := 18) (by omega)) 3 g w
theorem itr_Z {I J : IM} (h : eqZ I J) (n g : Nat) (w : Int32) : itr (J 15 2) n (ftV J g w) 0 4 = itr (I 15 2) n (ftV I g w) 0 4 := by
  rw [h 15 2 (scr_n (by omega) _)]
  exact eqS_itr n (ftV_Z h g w) 0 4 in04
theorem ftP_Z {I J : IM} (h : eqZ I J) (t g : Nat) (w : Int32) : ftP J t g w ↔ ftP I t g w := by
  have e7 := h.row (b := 257) (scr_n (by omega))
  have e8 := h.row (b := 258) (scr_n (by omega))
  have e9 := h.row (b := 259) (scr_n (by omega))
  unfold ftP
  rw [e7, e8, e9]
  refine forall_congr' fun k => forall_congr' fun _ => ?_
  rw [itr_Z h]
theorem bInt_congr {p q : Prop} [Decidable p] [Decidable q] (h : p ↔ q) : bInt p = bInt q := by
  by_cases c : p
  · rw [bInt_t c, bInt_t (h.mp c)]
  · rw [bInt_f c, bInt_f (fun z => c (h.mpr z))]
theorem ftI_Z (I : IM) (g : Nat) (w : Int32) : eqZ I (ftI I g w) := fun b k hb => by
  have h1 : b ≠ 261 := fun e => hb (by subst e; unfold scr; omega)
  have h2 : b < 266 ∨ 266 + 4 < b := by
    by_cases c : 266 ≤ b ∧ b < 311
    · exact absurd (by unfold scr; omega) hb
    · omega
  unfold ftI
  rw [putS_far h2, ftR_ne h1]
theorem ftI_261 (I : IM) (g : Nat) (w : Int32) {n : Nat} (h1 : 1 ≤ n) (h2 : n ≤ 30) : ftI I g w 261 n = itr (I 15 2) n (ftV I g w) 0 4 := by
  unfold ftI
  rw [putS_far (by decide)]
  unfold ftR
  rw [if_pos ⟨rfl, h1, h2⟩]
theorem ftI_260 (I : IM) (g : Nat) (w : Int32) : ftI I g w 260 = I 260 := by
  unfold ftI
  rw [putS_far (by decide), ftR_ne (by decide)]
theorem fold1_0 {α : Type} (f : Nat → α → α) (a : α) : fold1 f 0 a = a := rfl
theorem ev_step {a b : Nat → Int32} (al : Int32) (h : ∀ k, k < 5 → a k = b k) {n j : Nat} (hn : n < 5) (hj : j < 5) : evS a al n (nI j) = evS b al n (nI j) := by
  have e : (nI j).toNatClampNeg = j := nI_clamp (by omega)
  unfold evS
  rw [e, h j hj, h n hn]
theorem ev_congr {a b : Nat → Int32} (al : Int32) (h : ∀ k, k < 5 → a k = b k) (n : Nat) : n < 5 → fold1 (evS a al) n 0 = fold1 (evS b al) n 0 := by
  induction n with
  | zero => exact fun _ => (fold1_0 (evS a al) 0).trans (fold1_0 (evS b al) 0).symm
  | succ n ih =>
    intro hn
    have e1 : fold1 (evS a al) n 0 = fold1 (evS b al) n 0 := ih (Nat.lt_of_succ_lt hn)
    obtain ⟨j, hj, e⟩ := evS_rng b al n n (Nat.le_refl _)
    have e2 := ev_step al h hn (Nat.lt_of_le_of_lt hj (Nat.lt_of_succ_lt hn))
    exact (fold1_s (evS a al) n 0).trans ((congrArg (evS a al (n + 1)) (e1.trans e)).trans ((e2.trans (congrArg (evS b al (n + 1)) e.symm)).trans (fold1_s (evS b al) n 0).symm))
section
variable {E : EV} {d : Nat} {G : GD} {I : IM}
set_option maxRecDepth 100000 in
set_option maxHeartbeats 4000000 in
theorem m_fewest (hG : GTs G) (h15 : rng (I 15 0) 5) (hL : LawOK I) (ps n w : Int32) : ∃ I', eqZ I I' ∧ Run E (d + 11) mX10_fewest [.ref 0, .int ps, .int n, .int w] (0, 0) G I (some (.int (aFew I ps n w))) G I' := by
  have hS := hG.st 266 rfl
  obtain ⟨P, hP, eP⟩ := h15
  have eP2 : (I 15 0).toNatClampNeg = P := by rw [eP, nI_clamp (by omega)]
  unfold aFew
  by_cases hc : oFew I ps n w
  · rw [if_pos hc]
    obtain ⟨⟨c1, c2, c3⟩, c4, c5, c6, c7⟩ := hc
    have hP1 : 0 < P := by
      by_cases z : P = 0
      · subst z; exact absurd (by rw [eP]; decide) c1
      · omega
    have c4' : ¬ n < 0 := fun z => c4 (by rw [fa_lt] at z ⊢; have : (0 : Int32).toInt = 0 := rfl; have : (1 : Int32).toInt = 1 := rfl; omega)
    obtain ⟨nn, hn, rfl⟩ := nI_of c4'
    rw [eP2, nI_clamp hn]
    generalize hF : (fun o => lsR (I 15 2) (wgt I) P nn ps P 0 o 0 (getS I 36)) = F
    have key : ∀ (k o : Nat) (J : IM), o + k = P + 1 → frA 0 I J → ∃ I', frA 0 I I' ∧ ∀ x, Ex E (d + 11) mX10_fewest (fun a b c => a = some (.int (fwF F w k o)) ∧ b = G ∧ c = I') 65 [some (.ref 0), some (.int ps), some (.int (nI nn)), some (.int w), some (.int (nI o)), x] [] (0, 0) G (putS J 266 (getS I 36)) := by
      intro k
      induction k with
      | zero =>
        intro o J ho hJ
        have hq : frA 0 I (putS J 266 (getS I 36)) := hJ.trans (frA.put (ps := 0) (by omega))
        have e15 : putS J 266 (getS I 36) 15 0 = nI P := by rw [hq 15 0 (by omega)]; exact eP
        refine ⟨_, hq, fun x => ?_⟩
        refine Ex.run TX10_fewest [65] 60 ?_
        simp only [↓tX10_fewest, ↓opPush, ↓opILoad, ↓opLLoad, ↓opALoad, ↓opIStore, ↓opAStore, ↓opLStore, ↓opIInc, ↓opI1, ↓opII, ↓opID, ↓opLL, ↓opLD, ↓opLI, ↓opI2L, ↓opL2I, ↓opLcmp, ↓opDup, ↓opDupX1, ↓opDup2, ↓opPop, ↓opIf1, ↓opIf2, ↓opGoto, ↓opIRet, ↓opZRet, ↓opLRet, ↓opVRet, ↓opGetI, ↓opGetL, ↓opGetR, ↓opPutI, ↓opPutZ, ↓opPutL, ↓opPutR, ↓opIALoad, ↓opBALoad, ↓opZALoad, ↓opLALoad, ↓opAALoad, ↓opIAStore, ↓opZAStore, ↓opLAStore, ↓opALen, ↓opGetS, ↓opGetC, ↓opStrV, ↓opStrC, ↓opCallV, ↓opCallS, ↓opSw, ↓opCopy, ↓opCallT, ↓opBRet, ↓opObjI, ↓opNew, ↓opNewA, ↓opANew, ↓opAAStore, ↓opMNew, ↓opCallI, ↓wp_s, ↓wp_0, ↓popI_c, ↓popL_c, ↓popR_c, ↓pop1_i, ↓pop1_r, ↓ldI_0, ↓ldI_s, ↓ldL_0, ↓ldL_s, ↓ldR_0, ↓ldR_s, ↓stL_0, ↓stL_s, ↓tk_0, ↓tk_s, ↓Kc_s, ↓Kc_n, isS_0, isS_s, asP_c, gi_0, gi_s, noL_0, noL_s, isW_n, isW_i, isW_r, rcv_c, rcvT_c, swK_0, swK_s, catS, or_false, false_or, not_false_eq_true, not_true_eq_false, true_implies, false_implies, and_true, true_and, ↓reduceIte, Nat.reduceAdd, Nat.reduceLT, Nat.reduceLeDiff, Nat.reduceEqDiff, Nat.reduceSub, forall_const, eq_self, and_self, or_true, true_or, hG.o 0 10 rfl rfl, ↓asP_h (hG.p 0 2 15 rfl rfl), hG.o 15 8 rfl rfl, ↓asP_h (hG.p 15 3 16 rfl rfl), hG.o 16 100 rfl rfl, (hG.o 16 100 rfl rfl).A, hG.l 16 5 rfl rfl, ↓asP_h (hG.p 15 4 17 rfl rfl), hG.o 17 100 rfl rfl, (hG.o 17 100 rfl rfl).A, hG.l 17 5 rfl rfl, ↓asP_h (hG.p 15 5 18 rfl rfl), e15, eq_true (show nI P < nI o from nI_lt (by omega) (by omega)), fwF]
      | succ k ih =>
        intro o J ho hJ
        have hq : frA 0 I (putS J 266 (getS I 36)) := hJ.trans (frA.put (ps := 0) (by omega))
        have e15 : putS J 266 (getS I 36) 15 0 = nI P := by rw [hq 15 0 (by omega)]; exact eP
        have hlt : ¬ nI P < nI o := nI_nlt (by omega) (by omega)
        obtain ⟨J1, k1, k3, k2⟩ := c_leastRow (E := E) hG hP hn ps (I 15 2) (wgt I) P 0 (by omega) (d + 5 - P) o 0 J (getS I 36) (hL.A hJ.A) (by rw [hJ 15 0 (by omega)]; exact eP) (hJ 15 2 (by omega)) (wgt_A hJ.A hL) (by omega)
        have kJ : putS J1 266 (getS I 36) = J1 := putS_id (fun r k hr => k3 hP1 r k hr)
        rw [show d + 5 - P + P + 5 = d + 10 by omega] at k2
        have eF : F o = lsR (I 15 2) (wgt I) P nn ps P 0 o 0 (getS I 36) := by rw [← hF]
        rw [← eF] at k2
        by_cases cF : F o = -1
        · obtain ⟨I', i1, i2⟩ := ih (o + 1) J1 (by omega) (hJ.trans k1)
          rw [kJ] at i2
          refine ⟨I', i1, fun x => ?_⟩
          rw [show fwF F w (k + 1) o = fwF F w k (o + 1) from if_pos cF]
          refine Ex.run TX10_fewest [65] 60 ?_
          simp only [↓tX10_fewest, ↓opPush, ↓opILoad, ↓opLLoad, ↓opALoad, ↓opIStore, ↓opAStore, ↓opLStore, ↓opIInc, ↓opI1, ↓opII, ↓opID, ↓opLL, ↓opLD, ↓opLI, ↓opI2L, ↓opL2I, ↓opLcmp, ↓opDup, ↓opDupX1, ↓opDup2, ↓opPop, ↓opIf1, ↓opIf2, ↓opGoto, ↓opIRet, ↓opZRet, ↓opLRet, ↓opVRet, ↓opGetI, ↓opGetL, ↓opGetR, ↓opPutI, ↓opPutZ, ↓opPutL, ↓opPutR, ↓opIALoad, ↓opBALoad, ↓opZALoad, ↓opLALoad, ↓opAALoad, ↓opIAStore, ↓opZAStore, ↓opLAStore, ↓opALen, ↓opGetS, ↓opGetC, ↓opStrV, ↓opStrC, ↓opCallV, ↓opCallS, ↓opSw, ↓opCopy, ↓opCallT, ↓opBRet, ↓opObjI, ↓opNew, ↓opNewA, ↓opANew, ↓opAAStore, ↓opMNew, ↓opCallI, ↓wp_s, ↓wp_0, ↓popI_c, ↓popL_c, ↓popR_c, ↓pop1_i, ↓pop1_r, ↓ldI_0, ↓ldI_s, ↓ldL_0, ↓ldL_s, ↓ldR_0, ↓ldR_s, ↓stL_0, ↓stL_s, ↓tk_0, ↓tk_s, ↓Kc_s, ↓Kc_n, isS_0, isS_s, asP_c, gi_0, gi_s, noL_0, noL_s, isW_n, isW_i, isW_r, rcv_c, rcvT_c, swK_0, swK_s, catS, or_false, false_or, not_false_eq_true, not_true_eq_false, true_implies, false_implies, and_true, true_and, ↓reduceIte, Nat.reduceAdd, Nat.reduceLT, Nat.reduceLeDiff, Nat.reduceEqDiff, Nat.reduceSub, forall_const, eq_self, and_self, or_true, true_or, hG.o 0 10 rfl rfl, ↓asP_h (hG.p 0 2 15 rfl rfl), hG.o 15 8 rfl rfl, ↓asP_h (hG.p 15 3 16 rfl rfl), hG.o 16 100 rfl rfl, (hG.o 16 100 rfl rfl).A, hG.l 16 5 rfl rfl, ↓asP_h (hG.p 15 4 17 rfl rfl), hG.o 17 100 rfl rfl, (hG.o 17 100 rfl rfl).A, hG.l 17 5 rfl rfl, ↓asP_h (hG.p 15 5 18 rfl rfl), e15, hlt]
          refine ⟨_, _, _, _, rfl, k2, ?_⟩
          simp only [↓tX10_fewest, ↓opPush, ↓opILoad, ↓opLLoad, ↓opALoad, ↓opIStore, ↓opAStore, ↓opLStore, ↓opIInc, ↓opI1, ↓opII, ↓opID, ↓opLL, ↓opLD, ↓opLI, ↓opI2L, ↓opL2I, ↓opLcmp, ↓opDup, ↓opDupX1, ↓opDup2, ↓opPop, ↓opIf1, ↓opIf2, ↓opGoto, ↓opIRet, ↓opZRet, ↓opLRet, ↓opVRet, ↓opGetI, ↓opGetL, ↓opGetR, ↓opPutI, ↓opPutZ, ↓opPutL, ↓opPutR, ↓opIALoad, ↓opBALoad, ↓opZALoad, ↓opLALoad, ↓opAALoad, ↓opIAStore, ↓opZAStore, ↓opLAStore, ↓opALen, ↓opGetS, ↓opGetC, ↓opStrV, ↓opStrC, ↓opCallV, ↓opCallS, ↓opSw, ↓opCopy, ↓opCallT, ↓opBRet, ↓opObjI, ↓opNew, ↓opNewA, ↓opANew, ↓opAAStore, ↓opMNew, ↓opCallI, ↓wp_s, ↓wp_0, ↓popI_c, ↓popL_c, ↓popR_c, ↓pop1_i, ↓pop1_r, ↓ldI_0, ↓ldI_s, ↓ldL_0, ↓ldL_s, ↓ldR_0, ↓ldR_s, ↓stL_0, ↓stL_s, ↓tk_0, ↓tk_s, ↓Kc_s, ↓Kc_n, isS_0, isS_s, asP_c, gi_0, gi_s, noL_0, noL_s, isW_n, isW_i, isW_r, rcv_c, rcvT_c, swK_0, swK_s, catS, or_false, false_or, not_false_eq_true, not_true_eq_false, true_implies, false_implies, and_true, true_and, ↓reduceIte, Nat.reduceAdd, Nat.reduceLT, Nat.reduceLeDiff, Nat.reduceEqDiff, Nat.reduceSub, forall_const, eq_self, and_self, or_true, true_or, cF, nI_1]
          exact i2 _
        · refine ⟨J1, hJ.trans k1, fun x => ?_⟩
          rw [show fwF F w (k + 1) o = if w = 0 then F o else nI o from if_neg cF]
          refine Ex.run TX10_fewest [65] 60 ?_
          simp only [↓tX10_fewest, ↓opPush, ↓opILoad, ↓opLLoad, ↓opALoad, ↓opIStore, ↓opAStore, ↓opLStore, ↓opIInc, ↓opI1, ↓opII, ↓opID, ↓opLL, ↓opLD, ↓opLI, ↓opI2L, ↓opL2I, ↓opLcmp, ↓opDup, ↓opDupX1, ↓opDup2, ↓opPop, ↓opIf1, ↓opIf2, ↓opGoto, ↓opIRet, ↓opZRet, ↓opLRet, ↓opVRet, ↓opGetI, ↓opGetL, ↓opGetR, ↓opPutI, ↓opPutZ, ↓opPutL, ↓opPutR, ↓opIALoad, ↓opBALoad, ↓opZALoad, ↓opLALoad, ↓opAALoad, ↓opIAStore, ↓opZAStore, ↓opLAStore, ↓opALen, ↓opGetS, ↓opGetC, ↓opStrV, ↓opStrC, ↓opCallV, ↓opCallS, ↓opSw, ↓opCopy, ↓opCallT, ↓opBRet, ↓opObjI, ↓opNew, ↓opNewA, ↓opANew, ↓opAAStore, ↓opMNew, ↓opCallI, ↓wp_s, ↓wp_0, ↓popI_c, ↓popL_c, ↓popR_c, ↓pop1_i, ↓pop1_r, ↓ldI_0, ↓ldI_s, ↓ldL_0, ↓ldL_s, ↓ldR_0, ↓ldR_s, ↓stL_0, ↓stL_s, ↓tk_0, ↓tk_s, ↓Kc_s, ↓Kc_n, isS_0, isS_s, asP_c, gi_0, gi_s, noL_0, noL_s, isW_n, isW_i, isW_r, rcv_c, rcvT_c, swK_0, swK_s, catS, or_false, false_or, not_false_eq_true, not_true_eq_false, true_implies, false_implies, and_true, true_and, ↓reduceIte, Nat.reduceAdd, Nat.reduceLT, Nat.reduceLeDiff, Nat.reduceEqDiff, Nat.reduceSub, forall_const, eq_self, and_self, or_true, true_or, hG.o 0 10 rfl rfl, ↓asP_h (hG.p 0 2 15 rfl rfl), hG.o 15 8 rfl rfl, ↓asP_h (hG.p 15 3 16 rfl rfl), hG.o 16 100 rfl rfl, (hG.o 16 100 rfl rfl).A, hG.l 16 5 rfl rfl, ↓asP_h (hG.p 15 4 17 rfl rfl), hG.o 17 100 rfl rfl, (hG.o 17 100 rfl rfl).A, hG.l 17 5 rfl rfl, ↓asP_h (hG.p 15 5 18 rfl rfl), e15, hlt]
          refine ⟨_, _, _, _, rfl, k2, ?_⟩
          simp only [↓tX10_fewest, ↓opPush, ↓opILoad, ↓opLLoad, ↓opALoad, ↓opIStore, ↓opAStore, ↓opLStore, ↓opIInc, ↓opI1, ↓opII, ↓opID, ↓opLL, ↓opLD, ↓opLI, ↓opI2L, ↓opL2I, ↓opLcmp, ↓opDup, ↓opDupX1, ↓opDup2, ↓opPop, ↓opIf1, ↓opIf2, ↓opGoto, ↓opIRet, ↓opZRet, ↓opLRet, ↓opVRet, ↓opGetI, ↓opGetL, ↓opGetR, ↓opPutI, ↓opPutZ, ↓opPutL, ↓opPutR, ↓opIALoad, ↓opBALoad, ↓opZALoad, ↓opLALoad, ↓opAALoad, ↓opIAStore, ↓opZAStore, ↓opLAStore, ↓opALen, ↓opGetS, ↓opGetC, ↓opStrV, ↓opStrC, ↓opCallV, ↓opCallS, ↓opSw, ↓opCopy, ↓opCallT, ↓opBRet, ↓opObjI, ↓opNew, ↓opNewA, ↓opANew, ↓opAAStore, ↓opMNew, ↓opCallI, ↓wp_s, ↓wp_0, ↓popI_c, ↓popL_c, ↓popR_c, ↓pop1_i, ↓pop1_r, ↓ldI_0, ↓ldI_s, ↓ldL_0, ↓ldL_s, ↓ldR_0, ↓ldR_s, ↓stL_0, ↓stL_s, ↓tk_0, ↓tk_s, ↓Kc_s, ↓Kc_n, isS_0, isS_s, asP_c, gi_0, gi_s, noL_0, noL_s, isW_n, isW_i, isW_r, rcv_c, rcvT_c, swK_0, swK_s, catS, or_false, false_or, not_false_eq_true, not_true_eq_false, true_implies, false_implies, and_true, true_and, ↓reduceIte, Nat.reduceAdd, Nat.reduceLT, Nat.reduceLeDiff, Nat.reduceEqDiff, Nat.reduceSub, forall_const, eq_self, and_self, or_true, true_or, cF]
          exact ⟨fun z => by rw [if_pos z], fun z => by rw [if_neg z]⟩
    obtain ⟨I', i1, i2⟩ := key (P + 1) 0 I (by omega) frA.rf
    refine ⟨I', i1.A.Z, ?_⟩
    refine Ct.run okX10_fewest TX10_fewest [65] 90 rfl rfl ?_
    simp only [↓tX10_fewest, ↓opPush, ↓opILoad, ↓opLLoad, ↓opALoad, ↓opIStore, ↓opAStore, ↓opLStore, ↓opIInc, ↓opI1, ↓opII, ↓opID, ↓opLL, ↓opLD, ↓opLI, ↓opI2L, ↓opL2I, ↓opLcmp, ↓opDup, ↓opDupX1, ↓opDup2, ↓opPop, ↓opIf1, ↓opIf2, ↓opGoto, ↓opIRet, ↓opZRet, ↓opLRet, ↓opVRet, ↓opGetI, ↓opGetL, ↓opGetR, ↓opPutI, ↓opPutZ, ↓opPutL, ↓opPutR, ↓opIALoad, ↓opBALoad, ↓opZALoad, ↓opLALoad, ↓opAALoad, ↓opIAStore, ↓opZAStore, ↓opLAStore, ↓opALen, ↓opGetS, ↓opGetC, ↓opStrV, ↓opStrC, ↓opCallV, ↓opCallS, ↓opSw, ↓opCopy, ↓opCallT, ↓opBRet, ↓opObjI, ↓opNew, ↓opNewA, ↓opANew, ↓opAAStore, ↓opMNew, ↓opCallI, ↓wp_s, ↓wp_0, ↓popI_c, ↓popL_c, ↓popR_c, ↓pop1_i, ↓pop1_r, ↓ldI_0, ↓ldI_s, ↓ldL_0, ↓ldL_s, ↓ldR_0, ↓ldR_s, ↓stL_0, ↓stL_s, ↓tk_0, ↓tk_s, ↓Kc_s, ↓Kc_n, isS_0, isS_s, asP_c, gi_0, gi_s, noL_0, noL_s, isW_n, isW_i, isW_r, rcv_c, rcvT_c, swK_0, swK_s, catS, or_false, false_or, not_false_eq_true, not_true_eq_false, true_implies, false_implies, and_true, true_and, ↓reduceIte, Nat.reduceAdd, Nat.reduceLT, Nat.reduceLeDiff, Nat.reduceEqDiff, Nat.reduceSub, forall_const, eq_self, and_self, or_true, true_or, lve_i, lve_r, lve_l, lve_0, List.replicate_succ, List.replicate_zero, mX, mX10_fewest, hG.o 0 10 rfl rfl, ↓asP_h (hG.p 0 0 1 rfl rfl), ↓asP_h (hG.p 0 1 3 rfl rfl), ↓asP_h (hG.p 0 2 15 rfl rfl), ↓asP_h (hG.p 0 3 23 rfl rfl), ↓asP_h (hG.p 0 4 27 rfl rfl), ↓asP_h (hG.p 0 5 36 rfl rfl), ↓asP_h (hG.p 0 6 41 rfl rfl), ↓asP_h (hG.p 0 7 45 rfl rfl), ↓asP_h (hG.p 0 8 247 rfl rfl), ↓asP_h (hG.p 0 9 252 rfl rfl), ↓asP_h (hG.p 0 10 256 rfl rfl), ↓asP_h (hG.p 0 11 262 rfl rfl), hG.o 262 100 rfl rfl, (hG.o 262 100 rfl rfl).A, hG.l 262 5 rfl rfl, ↓asP_h (hG.p 0 12 263 rfl rfl), hG.o 263 104 rfl rfl, hG.l 263 9 rfl rfl, ↓asP_h (hG.p 0 13 264 rfl rfl), hG.o 264 100 rfl rfl, (hG.o 264 100 rfl rfl).A, hG.l 264 9 rfl rfl, ↓asP_h (hG.p 0 14 265 rfl rfl), hG.o 265 100 rfl rfl, (hG.o 265 100 rfl rfl).A, hG.l 265 9 rfl rfl]
    refine ⟨_, _, _, _, rfl, c_hasTown hG, ?_⟩
    rw [bInt_t c1]
    simp only [↓tX10_fewest, ↓opPush, ↓opILoad, ↓opLLoad, ↓opALoad, ↓opIStore, ↓opAStore, ↓opLStore, ↓opIInc, ↓opI1, ↓opII, ↓opID, ↓opLL, ↓opLD, ↓opLI, ↓opI2L, ↓opL2I, ↓opLcmp, ↓opDup, ↓opDupX1, ↓opDup2, ↓opPop, ↓opIf1, ↓opIf2, ↓opGoto, ↓opIRet, ↓opZRet, ↓opLRet, ↓opVRet, ↓opGetI, ↓opGetL, ↓opGetR, ↓opPutI, ↓opPutZ, ↓opPutL, ↓opPutR, ↓opIALoad, ↓opBALoad, ↓opZALoad, ↓opLALoad, ↓opAALoad, ↓opIAStore, ↓opZAStore, ↓opLAStore, ↓opALen, ↓opGetS, ↓opGetC, ↓opStrV, ↓opStrC, ↓opCallV, ↓opCallS, ↓opSw, ↓opCopy, ↓opCallT, ↓opBRet, ↓opObjI, ↓opNew, ↓opNewA, ↓opANew, ↓opAAStore, ↓opMNew, ↓opCallI, ↓wp_s, ↓wp_0, ↓popI_c, ↓popL_c, ↓popR_c, ↓pop1_i, ↓pop1_r, ↓ldI_0, ↓ldI_s, ↓ldL_0, ↓ldL_s, ↓ldR_0, ↓ldR_s, ↓stL_0, ↓stL_s, ↓tk_0, ↓tk_s, ↓Kc_s, ↓Kc_n, isS_0, isS_s, asP_c, gi_0, gi_s, noL_0, noL_s, isW_n, isW_i, isW_r, rcv_c, rcvT_c, swK_0, swK_s, catS, or_false, false_or, not_false_eq_true, not_true_eq_false, true_implies, false_implies, and_true, true_and, ↓reduceIte, Nat.reduceAdd, Nat.reduceLT, Nat.reduceLeDiff, Nat.reduceEqDiff, Nat.reduceSub, forall_const, eq_self, and_self, or_true, true_or, ne10, c2, c3, c4, c5, c6, c7, hG.o 0 10 rfl rfl, ↓asP_h (hG.p 0 2 15 rfl rfl), ↓asP_h (hG.p 0 5 36 rfl rfl), ↓asP_h (hG.p 0 12 263 rfl rfl), hG.o 263 104 rfl rfl, hG.l 263 9 rfl rfl, hG.o 15 8 rfl rfl, ↓asP_h (hG.p 15 3 16 rfl rfl), hG.o 16 100 rfl rfl, (hG.o 16 100 rfl rfl).A, hG.l 16 5 rfl rfl, ↓asP_h (hG.p 15 4 17 rfl rfl), hG.o 17 100 rfl rfl, (hG.o 17 100 rfl rfl).A, hG.l 17 5 rfl rfl, ↓asP_h (hG.p 15 5 18 rfl rfl), vpL (i := 0) (n := 9) (by decide), ↓asP_h (show gP G 263 (0 : Int32).toNatClampNeg = some 266 from hG.p 263 0 266 rfl rfl), hS.1]
    refine ⟨_, _, _, _, rfl, c_copyFrom hS (hG.st 36 rfl) (by decide), ?_⟩
    simp only [↓tX10_fewest, ↓opPush, ↓opILoad, ↓opLLoad, ↓opALoad, ↓opIStore, ↓opAStore, ↓opLStore, ↓opIInc, ↓opI1, ↓opII, ↓opID, ↓opLL, ↓opLD, ↓opLI, ↓opI2L, ↓opL2I, ↓opLcmp, ↓opDup, ↓opDupX1, ↓opDup2, ↓opPop, ↓opIf1, ↓opIf2, ↓opGoto, ↓opIRet, ↓opZRet, ↓opLRet, ↓opVRet, ↓opGetI, ↓opGetL, ↓opGetR, ↓opPutI, ↓opPutZ, ↓opPutL, ↓opPutR, ↓opIALoad, ↓opBALoad, ↓opZALoad, ↓opLALoad, ↓opAALoad, ↓opIAStore, ↓opZAStore, ↓opLAStore, ↓opALen, ↓opGetS, ↓opGetC, ↓opStrV, ↓opStrC, ↓opCallV, ↓opCallS, ↓opSw, ↓opCopy, ↓opCallT, ↓opBRet, ↓opObjI, ↓opNew, ↓opNewA, ↓opANew, ↓opAAStore, ↓opMNew, ↓opCallI, ↓wp_s, ↓wp_0, ↓popI_c, ↓popL_c, ↓popR_c, ↓pop1_i, ↓pop1_r, ↓ldI_0, ↓ldI_s, ↓ldL_0, ↓ldL_s, ↓ldR_0, ↓ldR_s, ↓stL_0, ↓stL_s, ↓tk_0, ↓tk_s, ↓Kc_s, ↓Kc_n, isS_0, isS_s, asP_c, gi_0, gi_s, noL_0, noL_s, isW_n, isW_i, isW_r, rcv_c, rcvT_c, swK_0, swK_s, catS, or_false, false_or, not_false_eq_true, not_true_eq_false, true_implies, false_implies, and_true, true_and, ↓reduceIte, Nat.reduceAdd, Nat.reduceLT, Nat.reduceLeDiff, Nat.reduceEqDiff, Nat.reduceSub, forall_const, eq_self, and_self, or_true, true_or]
    exact i2 _
  · rw [if_neg hc]
    refine ⟨I, eqZ.rf, ?_⟩
    have bad1 : Ex E (d + 11) mX10_fewest (fun a b z => a = some (.int (-1)) ∧ b = G ∧ z = I) 25 [some (.ref 0), some (.int ps), some (.int n), some (.int w), none, none] [] (0, 0) G I := by
      refine Ex.run TX10_fewest [] 60 ?_
      simp only [↓tX10_fewest, ↓opPush, ↓opILoad, ↓opLLoad, ↓opALoad, ↓opIStore, ↓opAStore, ↓opLStore, ↓opIInc, ↓opI1, ↓opII, ↓opID, ↓opLL, ↓opLD, ↓opLI, ↓opI2L, ↓opL2I, ↓opLcmp, ↓opDup, ↓opDupX1, ↓opDup2, ↓opPop, ↓opIf1, ↓opIf2, ↓opGoto, ↓opIRet, ↓opZRet, ↓opLRet, ↓opVRet, ↓opGetI, ↓opGetL, ↓opGetR, ↓opPutI, ↓opPutZ, ↓opPutL, ↓opPutR, ↓opIALoad, ↓opBALoad, ↓opZALoad, ↓opLALoad, ↓opAALoad, ↓opIAStore, ↓opZAStore, ↓opLAStore, ↓opALen, ↓opGetS, ↓opGetC, ↓opStrV, ↓opStrC, ↓opCallV, ↓opCallS, ↓opSw, ↓opCopy, ↓opCallT, ↓opBRet, ↓opObjI, ↓opNew, ↓opNewA, ↓opANew, ↓opAAStore, ↓opMNew, ↓opCallI, ↓wp_s, ↓wp_0, ↓popI_c, ↓popL_c, ↓popR_c, ↓pop1_i, ↓pop1_r, ↓ldI_0, ↓ldI_s, ↓ldL_0, ↓ldL_s, ↓ldR_0, ↓ldR_s, ↓stL_0, ↓stL_s, ↓tk_0, ↓tk_s, ↓Kc_s, ↓Kc_n, isS_0, isS_s, asP_c, gi_0, gi_s, noL_0, noL_s, isW_n, isW_i, isW_r, rcv_c, rcvT_c, swK_0, swK_s, catS, or_false, false_or, not_false_eq_true, not_true_eq_false, true_implies, false_implies, and_true, true_and, ↓reduceIte, Nat.reduceAdd, Nat.reduceLT, Nat.reduceLeDiff, Nat.reduceEqDiff, Nat.reduceSub, forall_const, eq_self, and_self, or_true, true_or]
    have bad2 : Ex E (d + 11) mX10_fewest (fun a b z => a = some (.int (-1)) ∧ b = G ∧ z = I) 47 [some (.ref 0), some (.int ps), some (.int n), some (.int w), none, none] [] (0, 0) G I := by
      refine Ex.run TX10_fewest [] 60 ?_
      simp only [↓tX10_fewest, ↓opPush, ↓opILoad, ↓opLLoad, ↓opALoad, ↓opIStore, ↓opAStore, ↓opLStore, ↓opIInc, ↓opI1, ↓opII, ↓opID, ↓opLL, ↓opLD, ↓opLI, ↓opI2L, ↓opL2I, ↓opLcmp, ↓opDup, ↓opDupX1, ↓opDup2, ↓opPop, ↓opIf1, ↓opIf2, ↓opGoto, ↓opIRet, ↓opZRet, ↓opLRet, ↓opVRet, ↓opGetI, ↓opGetL, ↓opGetR, ↓opPutI, ↓opPutZ, ↓opPutL, ↓opPutR, ↓opIALoad, ↓opBALoad, ↓opZALoad, ↓opLALoad, ↓opAALoad, ↓opIAStore, ↓opZAStore, ↓opLAStore, ↓opALen, ↓opGetS, ↓opGetC, ↓opStrV, ↓opStrC, ↓opCallV, ↓opCallS, ↓opSw, ↓opCopy, ↓opCallT, ↓opBRet, ↓opObjI, ↓opNew, ↓opNewA, ↓opANew, ↓opAAStore, ↓opMNew, ↓opCallI, ↓wp_s, ↓wp_0, ↓popI_c, ↓popL_c, ↓popR_c, ↓pop1_i, ↓pop1_r, ↓ldI_0, ↓ldI_s, ↓ldL_0, ↓ldL_s, ↓ldR_0, ↓ldR_s, ↓stL_0, ↓stL_s, ↓tk_0, ↓tk_s, ↓Kc_s, ↓Kc_n, isS_0, isS_s, asP_c, gi_0, gi_s, noL_0, noL_s, isW_n, isW_i, isW_r, rcv_c, rcvT_c, swK_0, swK_s, catS, or_false, false_or, not_false_eq_true, not_true_eq_false, true_implies, false_implies, and_true, true_and, ↓reduceIte, Nat.reduceAdd, Nat.reduceLT, Nat.reduceLeDiff, Nat.reduceEqDiff, Nat.reduceSub, forall_const, eq_self, and_self, or_true, true_or]
    refine Ct.run okX10_fewest TX10_fewest [25, 47, 49] 60 rfl rfl ?_
    simp only [↓tX10_fewest, ↓opPush, ↓opILoad, ↓opLLoad, ↓opALoad, ↓opIStore, ↓opAStore, ↓opLStore, ↓opIInc, ↓opI1, ↓opII, ↓opID, ↓opLL, ↓opLD, ↓opLI, ↓opI2L, ↓opL2I, ↓opLcmp, ↓opDup, ↓opDupX1, ↓opDup2, ↓opPop, ↓opIf1, ↓opIf2, ↓opGoto, ↓opIRet, ↓opZRet, ↓opLRet, ↓opVRet, ↓opGetI, ↓opGetL, ↓opGetR, ↓opPutI, ↓opPutZ, ↓opPutL, ↓opPutR, ↓opIALoad, ↓opBALoad, ↓opZALoad, ↓opLALoad, ↓opAALoad, ↓opIAStore, ↓opZAStore, ↓opLAStore, ↓opALen, ↓opGetS, ↓opGetC, ↓opStrV, ↓opStrC, ↓opCallV, ↓opCallS, ↓opSw, ↓opCopy, ↓opCallT, ↓opBRet, ↓opObjI, ↓opNew, ↓opNewA, ↓opANew, ↓opAAStore, ↓opMNew, ↓opCallI, ↓wp_s, ↓wp_0, ↓popI_c, ↓popL_c, ↓popR_c, ↓pop1_i, ↓pop1_r, ↓ldI_0, ↓ldI_s, ↓ldL_0, ↓ldL_s, ↓ldR_0, ↓ldR_s, ↓stL_0, ↓stL_s, ↓tk_0, ↓tk_s, ↓Kc_s, ↓Kc_n, isS_0, isS_s, asP_c, gi_0, gi_s, noL_0, noL_s, isW_n, isW_i, isW_r, rcv_c, rcvT_c, swK_0, swK_s, catS, or_false, false_or, not_false_eq_true, not_true_eq_false, true_implies, false_implies, and_true, true_and, ↓reduceIte, Nat.reduceAdd, Nat.reduceLT, Nat.reduceLeDiff, Nat.reduceEqDiff, Nat.reduceSub, forall_const, eq_self, and_self, or_true, true_or, lve_i, lve_r, lve_l, lve_0, List.replicate_succ, List.replicate_zero, mX, mX10_fewest, hG.o 0 10 rfl rfl, ↓asP_h (hG.p 0 0 1 rfl rfl), ↓asP_h (hG.p 0 1 3 rfl rfl), ↓asP_h (hG.p 0 2 15 rfl rfl), ↓asP_h (hG.p 0 3 23 rfl rfl), ↓asP_h (hG.p 0 4 27 rfl rfl), ↓asP_h (hG.p 0 5 36 rfl rfl), ↓asP_h (hG.p 0 6 41 rfl rfl), ↓asP_h (hG.p 0 7 45 rfl rfl), ↓asP_h (hG.p 0 8 247 rfl rfl), ↓asP_h (hG.p 0 9 252 rfl rfl), ↓asP_h (hG.p 0 10 256 rfl rfl), ↓asP_h (hG.p 0 11 262 rfl rfl), hG.o 262 100 rfl rfl, (hG.o 262 100 rfl rfl).A, hG.l 262 5 rfl rfl, ↓asP_h (hG.p 0 12 263 rfl rfl), hG.o 263 104 rfl rfl, hG.l 263 9 rfl rfl, ↓asP_h (hG.p 0 13 264 rfl rfl), hG.o 264 100 rfl rfl, (hG.o 264 100 rfl rfl).A, hG.l 264 9 rfl rfl, ↓asP_h (hG.p 0 14 265 rfl rfl), hG.o 265 100 rfl rfl, (hG.o 265 100 rfl rfl).A, hG.l 265 9 rfl rfl]
    refine ⟨_, _, _, _, rfl, c_hasTown hG, ?_⟩
    simp only [↓tX10_fewest, ↓opPush, ↓opILoad, ↓opLLoad, ↓opALoad, ↓opIStore, ↓opAStore, ↓opLStore, ↓opIInc, ↓opI1, ↓opII, ↓opID, ↓opLL, ↓opLD, ↓opLI, ↓opI2L, ↓opL2I, ↓opLcmp, ↓opDup, ↓opDupX1, ↓opDup2, ↓opPop, ↓opIf1, ↓opIf2, ↓opGoto, ↓opIRet, ↓opZRet, ↓opLRet, ↓opVRet, ↓opGetI, ↓opGetL, ↓opGetR, ↓opPutI, ↓opPutZ, ↓opPutL, ↓opPutR, ↓opIALoad, ↓opBALoad, ↓opZALoad, ↓opLALoad, ↓opAALoad, ↓opIAStore, ↓opZAStore, ↓opLAStore, ↓opALen, ↓opGetS, ↓opGetC, ↓opStrV, ↓opStrC, ↓opCallV, ↓opCallS, ↓opSw, ↓opCopy, ↓opCallT, ↓opBRet, ↓opObjI, ↓opNew, ↓opNewA, ↓opANew, ↓opAAStore, ↓opMNew, ↓opCallI, ↓wp_s, ↓wp_0, ↓popI_c, ↓popL_c, ↓popR_c, ↓pop1_i, ↓pop1_r, ↓ldI_0, ↓ldI_s, ↓ldL_0, ↓ldL_s, ↓ldR_0, ↓ldR_s, ↓stL_0, ↓stL_s, ↓tk_0, ↓tk_s, ↓Kc_s, ↓Kc_n, isS_0, isS_s, asP_c, gi_0, gi_s, noL_0, noL_s, isW_n, isW_i, isW_r, rcv_c, rcvT_c, swK_0, swK_s, catS, or_false, false_or, not_false_eq_true, not_true_eq_false, true_implies, false_implies, and_true, true_and, ↓reduceIte, Nat.reduceAdd, Nat.reduceLT, Nat.reduceLeDiff, Nat.reduceEqDiff, Nat.reduceSub, forall_const, eq_self, and_self, or_true, true_or, bInt_0, hG.o 0 10 rfl rfl, ↓asP_h (hG.p 0 2 15 rfl rfl), hG.o 15 8 rfl rfl, ↓asP_h (hG.p 15 3 16 rfl rfl), hG.o 16 100 rfl rfl, (hG.o 16 100 rfl rfl).A, hG.l 16 5 rfl rfl, ↓asP_h (hG.p 15 4 17 rfl rfl), hG.o 17 100 rfl rfl, (hG.o 17 100 rfl rfl).A, hG.l 17 5 rfl rfl, ↓asP_h (hG.p 15 5 18 rfl rfl)]
    exact ⟨fun _ => bad1, fun c1 => ⟨fun _ => bad1, fun c2 => ⟨fun c3 => ⟨fun _ => bad2, fun c4 => ⟨fun _ => bad2, fun c5 => ⟨fun _ => bad2, fun c6 => ⟨fun c7 => absurd ⟨⟨Decidable.not_not.mp c1, c2, c3⟩, c4, c5, c6, c7⟩ hc, fun _ => bad2⟩⟩⟩⟩, fun _ => bad1⟩⟩⟩
/-- what was seen, as fits reads it -/
def SeenOK (I : IM) : Prop := ∃ t : Nat, t ≤ 10 ∧ I 256 5 = nI t ∧ ∀ k, k < t → 1 ≤ (I 258 k).toNatClampNeg ∧ vp_in (I 258 k) 31
theorem SeenOK.Z {I J : IM} (h : eqZ I J) (hS : SeenOK I) : SeenOK J := by
  obtain ⟨t, ht, e, hk⟩ := hS
  have e8 := h.row (b := 258) (scr_n (by omega))
  exact ⟨t, ht, by rw [h 256 5 (scr_n (by omega) _)]; exact e, fun k hk2 => by rw [e8]; exact hk k hk2⟩
/-- fits, from a memory like I -/
theorem fits_Z (hG : GTs G) (hS : SeenOK I) {J : IM} (hJ : eqZ I J) {g : Nat} (hg : g < 12) (w : Nat) : Run E (d + 3) mX10_fits [.ref 0, .int (nI g), .int (nI w)] (0, 0) G J (some (.int (ftB I (nI g) w))) G (ftI J g (nI w)) := by
  obtain ⟨t, ht, e, hk⟩ := hS.Z hJ
  have := c_fits (E := E) (d := d) hG ht e hk hg (nI w)
  unfold ftB
  rw [show (I 256 5).toNatClampNeg = t by rw [← hJ 256 5 (scr_n (by omega) _), e, nI_clamp (by omega)], nI_clamp (n := g) (by omega), ← bInt_congr (ftP_Z hJ t g (nI w))]
  exact this
theorem tg_lt (h15 : rng (I 15 1) 10) {g : Int32} (hg : oTg I g) : ∃ gg : Nat, gg < 10 ∧ g = nI gg := by
  obtain ⟨n, hn, e⟩ := h15
  obtain ⟨h1, h2⟩ := hg
  obtain ⟨j, hj, rfl⟩ := nI_of h1
  rw [e] at h2
  refine ⟨j, ?_, rfl⟩
  by_cases q : n ≤ j
  · exact absurd (nI_le q hj) h2
  · omega
set_option maxRecDepth 100000 in
set_option maxHeartbeats 4000000 in
theorem m_weights (hG : GTs G) (h15 : rng (I 15 1) 10) (hS : SeenOK I) (g i : Int32) : ∃ I', eqZ I I' ∧ Run E (d + 4) mX10_weights [.ref 0, .int g, .int i] (0, 0) G I (some (.int (aWts I g i))) G I' := by
  unfold aWts
  by_cases hc : oTg I g
  · rw [if_pos hc]
    obtain ⟨gg, hg, rfl⟩ := tg_lt h15 hc
    have key : ∀ (k w : Nat) (J : IM) (a : Int32), w + k = 31 → eqZ I J → ∃ I', eqZ I I' ∧ Ex E (d + 4) mX10_weights (fun x y z => x = some (.int (cnF (ftB I (nI gg)) nI i k w a)) ∧ y = G ∧ z = I') 15 [some (.ref 0), some (.int (nI gg)), some (.int i), some (.int a), some (.int (nI w))] [] (0, 0) G J := by
      intro k
      induction k with
      | zero =>
        intro w J a hw hJ
        refine ⟨J, hJ, Ex.run TX10_weights [15] 60 ?_⟩
        simp only [↓tX10_weights, ↓opPush, ↓opILoad, ↓opLLoad, ↓opALoad, ↓opIStore, ↓opAStore, ↓opLStore, ↓opIInc, ↓opI1, ↓opII, ↓opID, ↓opLL, ↓opLD, ↓opLI, ↓opI2L, ↓opL2I, ↓opLcmp, ↓opDup, ↓opDupX1, ↓opDup2, ↓opPop, ↓opIf1, ↓opIf2, ↓opGoto, ↓opIRet, ↓opZRet, ↓opLRet, ↓opVRet, ↓opGetI, ↓opGetL, ↓opGetR, ↓opPutI, ↓opPutZ, ↓opPutL, ↓opPutR, ↓opIALoad, ↓opBALoad, ↓opZALoad, ↓opLALoad, ↓opAALoad, ↓opIAStore, ↓opZAStore, ↓opLAStore, ↓opALen, ↓opGetS, ↓opGetC, ↓opStrV, ↓opStrC, ↓opCallV, ↓opCallS, ↓opSw, ↓opCopy, ↓opCallT, ↓opBRet, ↓opObjI, ↓opNew, ↓opNewA, ↓opANew, ↓opAAStore, ↓opMNew, ↓opCallI, ↓wp_s, ↓wp_0, ↓popI_c, ↓popL_c, ↓popR_c, ↓pop1_i, ↓pop1_r, ↓ldI_0, ↓ldI_s, ↓ldL_0, ↓ldL_s, ↓ldR_0, ↓ldR_s, ↓stL_0, ↓stL_s, ↓tk_0, ↓tk_s, ↓Kc_s, ↓Kc_n, isS_0, isS_s, asP_c, gi_0, gi_s, noL_0, noL_s, isW_n, isW_i, isW_r, rcv_c, rcvT_c, swK_0, swK_s, catS, or_false, false_or, not_false_eq_true, not_true_eq_false, true_implies, false_implies, and_true, true_and, ↓reduceIte, Nat.reduceAdd, Nat.reduceLT, Nat.reduceLeDiff, Nat.reduceEqDiff, Nat.reduceSub, forall_const, eq_self, and_self, or_true, true_or, eq_true (show (30 : Int32) < nI w from (nI_ltI (a := 30) (by decide) (by omega)).mpr (by omega)), cnF]
        exact ⟨fun z => by rw [if_pos z], fun z => by rw [if_neg z]⟩
      | succ k ih =>
        intro w J a hw hJ
        have hlt : ¬ (30 : Int32) < nI w := fun z => absurd ((nI_ltI (a := 30) (by decide) (by omega)).mp z) (by omega)
        have hf := fits_Z (E := E) (d := d) hG hS hJ (g := gg) (by omega) w
        have hJ2 : eqZ I (ftI J gg (nI w)) := hJ.trans (ftI_Z J gg (nI w))
        by_cases c0 : ftB I (nI gg) w = 0
        · obtain ⟨I', i1, i2⟩ := ih (w + 1) _ a (by omega) hJ2
          refine ⟨I', i1, Ex.run TX10_weights [15] 60 ?_⟩
          rw [show cnF (ftB I (nI gg)) nI i (k + 1) w a = cnF (ftB I (nI gg)) nI i k (w + 1) a from if_pos c0]
          simp only [↓tX10_weights, ↓opPush, ↓opILoad, ↓opLLoad, ↓opALoad, ↓opIStore, ↓opAStore, ↓opLStore, ↓opIInc, ↓opI1, ↓opII, ↓opID, ↓opLL, ↓opLD, ↓opLI, ↓opI2L, ↓opL2I, ↓opLcmp, ↓opDup, ↓opDupX1, ↓opDup2, ↓opPop, ↓opIf1, ↓opIf2, ↓opGoto, ↓opIRet, ↓opZRet, ↓opLRet, ↓opVRet, ↓opGetI, ↓opGetL, ↓opGetR, ↓opPutI, ↓opPutZ, ↓opPutL, ↓opPutR, ↓opIALoad, ↓opBALoad, ↓opZALoad, ↓opLALoad, ↓opAALoad, ↓opIAStore, ↓opZAStore, ↓opLAStore, ↓opALen, ↓opGetS, ↓opGetC, ↓opStrV, ↓opStrC, ↓opCallV, ↓opCallS, ↓opSw, ↓opCopy, ↓opCallT, ↓opBRet, ↓opObjI, ↓opNew, ↓opNewA, ↓opANew, ↓opAAStore, ↓opMNew, ↓opCallI, ↓wp_s, ↓wp_0, ↓popI_c, ↓popL_c, ↓popR_c, ↓pop1_i, ↓pop1_r, ↓ldI_0, ↓ldI_s, ↓ldL_0, ↓ldL_s, ↓ldR_0, ↓ldR_s, ↓stL_0, ↓stL_s, ↓tk_0, ↓tk_s, ↓Kc_s, ↓Kc_n, isS_0, isS_s, asP_c, gi_0, gi_s, noL_0, noL_s, isW_n, isW_i, isW_r, rcv_c, rcvT_c, swK_0, swK_s, catS, or_false, false_or, not_false_eq_true, not_true_eq_false, true_implies, false_implies, and_true, true_and, ↓reduceIte, Nat.reduceAdd, Nat.reduceLT, Nat.reduceLeDiff, Nat.reduceEqDiff, Nat.reduceSub, forall_const, eq_self, and_self, or_true, true_or, hlt, hG.o 0 10 rfl rfl, ↓asP_h (hG.p 0 0 1 rfl rfl), ↓asP_h (hG.p 0 1 3 rfl rfl), ↓asP_h (hG.p 0 2 15 rfl rfl), ↓asP_h (hG.p 0 3 23 rfl rfl), ↓asP_h (hG.p 0 4 27 rfl rfl), ↓asP_h (hG.p 0 5 36 rfl rfl), ↓asP_h (hG.p 0 6 41 rfl rfl), ↓asP_h (hG.p 0 7 45 rfl rfl), ↓asP_h (hG.p 0 8 247 rfl rfl), ↓asP_h (hG.p 0 9 252 rfl rfl), ↓asP_h (hG.p 0 10 256 rfl rfl), ↓asP_h (hG.p 0 11 262 rfl rfl), hG.o 262 100 rfl rfl, (hG.o 262 100 rfl rfl).A, hG.l 262 5 rfl rfl, ↓asP_h (hG.p 0 12 263 rfl rfl), hG.o 263 104 rfl rfl, hG.l 263 9 rfl rfl, ↓asP_h (hG.p 0 13 264 rfl rfl), hG.o 264 100 rfl rfl, (hG.o 264 100 rfl rfl).A, hG.l 264 9 rfl rfl, ↓asP_h (hG.p 0 14 265 rfl rfl), hG.o 265 100 rfl rfl, (hG.o 265 100 rfl rfl).A, hG.l 265 9 rfl rfl]
          refine ⟨_, _, _, _, rfl, hf, ?_⟩
          simp only [↓tX10_weights, ↓opPush, ↓opILoad, ↓opLLoad, ↓opALoad, ↓opIStore, ↓opAStore, ↓opLStore, ↓opIInc, ↓opI1, ↓opII, ↓opID, ↓opLL, ↓opLD, ↓opLI, ↓opI2L, ↓opL2I, ↓opLcmp, ↓opDup, ↓opDupX1, ↓opDup2, ↓opPop, ↓opIf1, ↓opIf2, ↓opGoto, ↓opIRet, ↓opZRet, ↓opLRet, ↓opVRet, ↓opGetI, ↓opGetL, ↓opGetR, ↓opPutI, ↓opPutZ, ↓opPutL, ↓opPutR, ↓opIALoad, ↓opBALoad, ↓opZALoad, ↓opLALoad, ↓opAALoad, ↓opIAStore, ↓opZAStore, ↓opLAStore, ↓opALen, ↓opGetS, ↓opGetC, ↓opStrV, ↓opStrC, ↓opCallV, ↓opCallS, ↓opSw, ↓opCopy, ↓opCallT, ↓opBRet, ↓opObjI, ↓opNew, ↓opNewA, ↓opANew, ↓opAAStore, ↓opMNew, ↓opCallI, ↓wp_s, ↓wp_0, ↓popI_c, ↓popL_c, ↓popR_c, ↓pop1_i, ↓pop1_r, ↓ldI_0, ↓ldI_s, ↓ldL_0, ↓ldL_s, ↓ldR_0, ↓ldR_s, ↓stL_0, ↓stL_s, ↓tk_0, ↓tk_s, ↓Kc_s, ↓Kc_n, isS_0, isS_s, asP_c, gi_0, gi_s, noL_0, noL_s, isW_n, isW_i, isW_r, rcv_c, rcvT_c, swK_0, swK_s, catS, or_false, false_or, not_false_eq_true, not_true_eq_false, true_implies, false_implies, and_true, true_and, ↓reduceIte, Nat.reduceAdd, Nat.reduceLT, Nat.reduceLeDiff, Nat.reduceEqDiff, Nat.reduceSub, forall_const, eq_self, and_self, or_true, true_or, c0, nI_1]
          exact i2
        · by_cases c1 : a = i
          · refine ⟨_, hJ2, Ex.run TX10_weights [15] 60 ?_⟩
            rw [show cnF (ftB I (nI gg)) nI i (k + 1) w a = nI w from (if_neg c0).trans (if_pos c1)]
            simp only [↓tX10_weights, ↓opPush, ↓opILoad, ↓opLLoad, ↓opALoad, ↓opIStore, ↓opAStore, ↓opLStore, ↓opIInc, ↓opI1, ↓opII, ↓opID, ↓opLL, ↓opLD, ↓opLI, ↓opI2L, ↓opL2I, ↓opLcmp, ↓opDup, ↓opDupX1, ↓opDup2, ↓opPop, ↓opIf1, ↓opIf2, ↓opGoto, ↓opIRet, ↓opZRet, ↓opLRet, ↓opVRet, ↓opGetI, ↓opGetL, ↓opGetR, ↓opPutI, ↓opPutZ, ↓opPutL, ↓opPutR, ↓opIALoad, ↓opBALoad, ↓opZALoad, ↓opLALoad, ↓opAALoad, ↓opIAStore, ↓opZAStore, ↓opLAStore, ↓opALen, ↓opGetS, ↓opGetC, ↓opStrV, ↓opStrC, ↓opCallV, ↓opCallS, ↓opSw, ↓opCopy, ↓opCallT, ↓opBRet, ↓opObjI, ↓opNew, ↓opNewA, ↓opANew, ↓opAAStore, ↓opMNew, ↓opCallI, ↓wp_s, ↓wp_0, ↓popI_c, ↓popL_c, ↓popR_c, ↓pop1_i, ↓pop1_r, ↓ldI_0, ↓ldI_s, ↓ldL_0, ↓ldL_s, ↓ldR_0, ↓ldR_s, ↓stL_0, ↓stL_s, ↓tk_0, ↓tk_s, ↓Kc_s, ↓Kc_n, isS_0, isS_s, asP_c, gi_0, gi_s, noL_0, noL_s, isW_n, isW_i, isW_r, rcv_c, rcvT_c, swK_0, swK_s, catS, or_false, false_or, not_false_eq_true, not_true_eq_false, true_implies, false_implies, and_true, true_and, ↓reduceIte, Nat.reduceAdd, Nat.reduceLT, Nat.reduceLeDiff, Nat.reduceEqDiff, Nat.reduceSub, forall_const, eq_self, and_self, or_true, true_or, hlt, hG.o 0 10 rfl rfl, ↓asP_h (hG.p 0 0 1 rfl rfl), ↓asP_h (hG.p 0 1 3 rfl rfl), ↓asP_h (hG.p 0 2 15 rfl rfl), ↓asP_h (hG.p 0 3 23 rfl rfl), ↓asP_h (hG.p 0 4 27 rfl rfl), ↓asP_h (hG.p 0 5 36 rfl rfl), ↓asP_h (hG.p 0 6 41 rfl rfl), ↓asP_h (hG.p 0 7 45 rfl rfl), ↓asP_h (hG.p 0 8 247 rfl rfl), ↓asP_h (hG.p 0 9 252 rfl rfl), ↓asP_h (hG.p 0 10 256 rfl rfl), ↓asP_h (hG.p 0 11 262 rfl rfl), hG.o 262 100 rfl rfl, (hG.o 262 100 rfl rfl).A, hG.l 262 5 rfl rfl, ↓asP_h (hG.p 0 12 263 rfl rfl), hG.o 263 104 rfl rfl, hG.l 263 9 rfl rfl, ↓asP_h (hG.p 0 13 264 rfl rfl), hG.o 264 100 rfl rfl, (hG.o 264 100 rfl rfl).A, hG.l 264 9 rfl rfl, ↓asP_h (hG.p 0 14 265 rfl rfl), hG.o 265 100 rfl rfl, (hG.o 265 100 rfl rfl).A, hG.l 265 9 rfl rfl]
            refine ⟨_, _, _, _, rfl, hf, ?_⟩
            simp only [↓tX10_weights, ↓opPush, ↓opILoad, ↓opLLoad, ↓opALoad, ↓opIStore, ↓opAStore, ↓opLStore, ↓opIInc, ↓opI1, ↓opII, ↓opID, ↓opLL, ↓opLD, ↓opLI, ↓opI2L, ↓opL2I, ↓opLcmp, ↓opDup, ↓opDupX1, ↓opDup2, ↓opPop, ↓opIf1, ↓opIf2, ↓opGoto, ↓opIRet, ↓opZRet, ↓opLRet, ↓opVRet, ↓opGetI, ↓opGetL, ↓opGetR, ↓opPutI, ↓opPutZ, ↓opPutL, ↓opPutR, ↓opIALoad, ↓opBALoad, ↓opZALoad, ↓opLALoad, ↓opAALoad, ↓opIAStore, ↓opZAStore, ↓opLAStore, ↓opALen, ↓opGetS, ↓opGetC, ↓opStrV, ↓opStrC, ↓opCallV, ↓opCallS, ↓opSw, ↓opCopy, ↓opCallT, ↓opBRet, ↓opObjI, ↓opNew, ↓opNewA, ↓opANew, ↓opAAStore, ↓opMNew, ↓opCallI, ↓wp_s, ↓wp_0, ↓popI_c, ↓popL_c, ↓popR_c, ↓pop1_i, ↓pop1_r, ↓ldI_0, ↓ldI_s, ↓ldL_0, ↓ldL_s, ↓ldR_0, ↓ldR_s, ↓stL_0, ↓stL_s, ↓tk_0, ↓tk_s, ↓Kc_s, ↓Kc_n, isS_0, isS_s, asP_c, gi_0, gi_s, noL_0, noL_s, isW_n, isW_i, isW_r, rcv_c, rcvT_c, swK_0, swK_s, catS, or_false, false_or, not_false_eq_true, not_true_eq_false, true_implies, false_implies, and_true, true_and, ↓reduceIte, Nat.reduceAdd, Nat.reduceLT, Nat.reduceLeDiff, Nat.reduceEqDiff, Nat.reduceSub, forall_const, eq_self, and_self, or_true, true_or, c0, c1]
          · obtain ⟨I', i1, i2⟩ := ih (w + 1) _ (a + 1) (by omega) hJ2
            refine ⟨I', i1, Ex.run TX10_weights [15] 60 ?_⟩
            rw [show cnF (ftB I (nI gg)) nI i (k + 1) w a = cnF (ftB I (nI gg)) nI i k (w + 1) (a + 1) from (if_neg c0).trans (if_neg c1)]
            simp only [↓tX10_weights, ↓opPush, ↓opILoad, ↓opLLoad, ↓opALoad, ↓opIStore, ↓opAStore, ↓opLStore, ↓opIInc, ↓opI1, ↓opII, ↓opID, ↓opLL, ↓opLD, ↓opLI, ↓opI2L, ↓opL2I, ↓opLcmp, ↓opDup, ↓opDupX1, ↓opDup2, ↓opPop, ↓opIf1, ↓opIf2, ↓opGoto, ↓opIRet, ↓opZRet, ↓opLRet, ↓opVRet, ↓opGetI, ↓opGetL, ↓opGetR, ↓opPutI, ↓opPutZ, ↓opPutL, ↓opPutR, ↓opIALoad, ↓opBALoad, ↓opZALoad, ↓opLALoad, ↓opAALoad, ↓opIAStore, ↓opZAStore, ↓opLAStore, ↓opALen, ↓opGetS, ↓opGetC, ↓opStrV, ↓opStrC, ↓opCallV, ↓opCallS, ↓opSw, ↓opCopy, ↓opCallT, ↓opBRet, ↓opObjI, ↓opNew, ↓opNewA, ↓opANew, ↓opAAStore, ↓opMNew, ↓opCallI, ↓wp_s, ↓wp_0, ↓popI_c, ↓popL_c, ↓popR_c, ↓pop1_i, ↓pop1_r, ↓ldI_0, ↓ldI_s, ↓ldL_0, ↓ldL_s, ↓ldR_0, ↓ldR_s, ↓stL_0, ↓stL_s, ↓tk_0, ↓tk_s, ↓Kc_s, ↓Kc_n, isS_0, isS_s, asP_c, gi_0, gi_s, noL_0, noL_s, isW_n, isW_i, isW_r, rcv_c, rcvT_c, swK_0, swK_s, catS, or_false, false_or, not_false_eq_true, not_true_eq_false, true_implies, false_implies, and_true, true_and, ↓reduceIte, Nat.reduceAdd, Nat.reduceLT, Nat.reduceLeDiff, Nat.reduceEqDiff, Nat.reduceSub, forall_const, eq_self, and_self, or_true, true_or, hlt, hG.o 0 10 rfl rfl, ↓asP_h (hG.p 0 0 1 rfl rfl), ↓asP_h (hG.p 0 1 3 rfl rfl), ↓asP_h (hG.p 0 2 15 rfl rfl), ↓asP_h (hG.p 0 3 23 rfl rfl), ↓asP_h (hG.p 0 4 27 rfl rfl), ↓asP_h (hG.p 0 5 36 rfl rfl), ↓asP_h (hG.p 0 6 41 rfl rfl), ↓asP_h (hG.p 0 7 45 rfl rfl), ↓asP_h (hG.p 0 8 247 rfl rfl), ↓asP_h (hG.p 0 9 252 rfl rfl), ↓asP_h (hG.p 0 10 256 rfl rfl), ↓asP_h (hG.p 0 11 262 rfl rfl), hG.o 262 100 rfl rfl, (hG.o 262 100 rfl rfl).A, hG.l 262 5 rfl rfl, ↓asP_h (hG.p 0 12 263 rfl rfl), hG.o 263 104 rfl rfl, hG.l 263 9 rfl rfl, ↓asP_h (hG.p 0 13 264 rfl rfl), hG.o 264 100 rfl rfl, (hG.o 264 100 rfl rfl).A, hG.l 264 9 rfl rfl, ↓asP_h (hG.p 0 14 265 rfl rfl), hG.o 265 100 rfl rfl, (hG.o 265 100 rfl rfl).A, hG.l 265 9 rfl rfl]
            refine ⟨_, _, _, _, rfl, hf, ?_⟩
            simp only [↓tX10_weights, ↓opPush, ↓opILoad, ↓opLLoad, ↓opALoad, ↓opIStore, ↓opAStore, ↓opLStore, ↓opIInc, ↓opI1, ↓opII, ↓opID, ↓opLL, ↓opLD, ↓opLI, ↓opI2L, ↓opL2I, ↓opLcmp, ↓opDup, ↓opDupX1, ↓opDup2, ↓opPop, ↓opIf1, ↓opIf2, ↓opGoto, ↓opIRet, ↓opZRet, ↓opLRet, ↓opVRet, ↓opGetI, ↓opGetL, ↓opGetR, ↓opPutI, ↓opPutZ, ↓opPutL, ↓opPutR, ↓opIALoad, ↓opBALoad, ↓opZALoad, ↓opLALoad, ↓opAALoad, ↓opIAStore, ↓opZAStore, ↓opLAStore, ↓opALen, ↓opGetS, ↓opGetC, ↓opStrV, ↓opStrC, ↓opCallV, ↓opCallS, ↓opSw, ↓opCopy, ↓opCallT, ↓opBRet, ↓opObjI, ↓opNew, ↓opNewA, ↓opANew, ↓opAAStore, ↓opMNew, ↓opCallI, ↓wp_s, ↓wp_0, ↓popI_c, ↓popL_c, ↓popR_c, ↓pop1_i, ↓pop1_r, ↓ldI_0, ↓ldI_s, ↓ldL_0, ↓ldL_s, ↓ldR_0, ↓ldR_s, ↓stL_0, ↓stL_s, ↓tk_0, ↓tk_s, ↓Kc_s, ↓Kc_n, isS_0, isS_s, asP_c, gi_0, gi_s, noL_0, noL_s, isW_n, isW_i, isW_r, rcv_c, rcvT_c, swK_0, swK_s, catS, or_false, false_or, not_false_eq_true, not_true_eq_false, true_implies, false_implies, and_true, true_and, ↓reduceIte, Nat.reduceAdd, Nat.reduceLT, Nat.reduceLeDiff, Nat.reduceEqDiff, Nat.reduceSub, forall_const, eq_self, and_self, or_true, true_or, c0, c1, nI_1]
            exact i2
    obtain ⟨I', i1, i2⟩ := key 30 1 I 0 rfl eqZ.rf
    refine ⟨I', i1, ?_⟩
    refine Ct.run okX10_weights TX10_weights [15] 60 rfl rfl ?_
    simp only [↓tX10_weights, ↓opPush, ↓opILoad, ↓opLLoad, ↓opALoad, ↓opIStore, ↓opAStore, ↓opLStore, ↓opIInc, ↓opI1, ↓opII, ↓opID, ↓opLL, ↓opLD, ↓opLI, ↓opI2L, ↓opL2I, ↓opLcmp, ↓opDup, ↓opDupX1, ↓opDup2, ↓opPop, ↓opIf1, ↓opIf2, ↓opGoto, ↓opIRet, ↓opZRet, ↓opLRet, ↓opVRet, ↓opGetI, ↓opGetL, ↓opGetR, ↓opPutI, ↓opPutZ, ↓opPutL, ↓opPutR, ↓opIALoad, ↓opBALoad, ↓opZALoad, ↓opLALoad, ↓opAALoad, ↓opIAStore, ↓opZAStore, ↓opLAStore, ↓opALen, ↓opGetS, ↓opGetC, ↓opStrV, ↓opStrC, ↓opCallV, ↓opCallS, ↓opSw, ↓opCopy, ↓opCallT, ↓opBRet, ↓opObjI, ↓opNew, ↓opNewA, ↓opANew, ↓opAAStore, ↓opMNew, ↓opCallI, ↓wp_s, ↓wp_0, ↓popI_c, ↓popL_c, ↓popR_c, ↓pop1_i, ↓pop1_r, ↓ldI_0, ↓ldI_s, ↓ldL_0, ↓ldL_s, ↓ldR_0, ↓ldR_s, ↓stL_0, ↓stL_s, ↓tk_0, ↓tk_s, ↓Kc_s, ↓Kc_n, isS_0, isS_s, asP_c, gi_0, gi_s, noL_0, noL_s, isW_n, isW_i, isW_r, rcv_c, rcvT_c, swK_0, swK_s, catS, or_false, false_or, not_false_eq_true, not_true_eq_false, true_implies, false_implies, and_true, true_and, ↓reduceIte, Nat.reduceAdd, Nat.reduceLT, Nat.reduceLeDiff, Nat.reduceEqDiff, Nat.reduceSub, forall_const, eq_self, and_self, or_true, true_or, lve_i, lve_r, lve_l, lve_0, List.replicate_succ, List.replicate_zero, mX, mX10_weights, hG.o 0 10 rfl rfl, ↓asP_h (hG.p 0 0 1 rfl rfl), ↓asP_h (hG.p 0 1 3 rfl rfl), ↓asP_h (hG.p 0 2 15 rfl rfl), ↓asP_h (hG.p 0 3 23 rfl rfl), ↓asP_h (hG.p 0 4 27 rfl rfl), ↓asP_h (hG.p 0 5 36 rfl rfl), ↓asP_h (hG.p 0 6 41 rfl rfl), ↓asP_h (hG.p 0 7 45 rfl rfl), ↓asP_h (hG.p 0 8 247 rfl rfl), ↓asP_h (hG.p 0 9 252 rfl rfl), ↓asP_h (hG.p 0 10 256 rfl rfl), ↓asP_h (hG.p 0 11 262 rfl rfl), hG.o 262 100 rfl rfl, (hG.o 262 100 rfl rfl).A, hG.l 262 5 rfl rfl, ↓asP_h (hG.p 0 12 263 rfl rfl), hG.o 263 104 rfl rfl, hG.l 263 9 rfl rfl, ↓asP_h (hG.p 0 13 264 rfl rfl), hG.o 264 100 rfl rfl, (hG.o 264 100 rfl rfl).A, hG.l 264 9 rfl rfl, ↓asP_h (hG.p 0 14 265 rfl rfl), hG.o 265 100 rfl rfl, (hG.o 265 100 rfl rfl).A, hG.l 265 9 rfl rfl]
    refine ⟨_, _, _, _, rfl, c_isToldGrudge hG _, ?_⟩
    rw [bInt_t hc]
    simp only [↓tX10_weights, ↓opPush, ↓opILoad, ↓opLLoad, ↓opALoad, ↓opIStore, ↓opAStore, ↓opLStore, ↓opIInc, ↓opI1, ↓opII, ↓opID, ↓opLL, ↓opLD, ↓opLI, ↓opI2L, ↓opL2I, ↓opLcmp, ↓opDup, ↓opDupX1, ↓opDup2, ↓opPop, ↓opIf1, ↓opIf2, ↓opGoto, ↓opIRet, ↓opZRet, ↓opLRet, ↓opVRet, ↓opGetI, ↓opGetL, ↓opGetR, ↓opPutI, ↓opPutZ, ↓opPutL, ↓opPutR, ↓opIALoad, ↓opBALoad, ↓opZALoad, ↓opLALoad, ↓opAALoad, ↓opIAStore, ↓opZAStore, ↓opLAStore, ↓opALen, ↓opGetS, ↓opGetC, ↓opStrV, ↓opStrC, ↓opCallV, ↓opCallS, ↓opSw, ↓opCopy, ↓opCallT, ↓opBRet, ↓opObjI, ↓opNew, ↓opNewA, ↓opANew, ↓opAAStore, ↓opMNew, ↓opCallI, ↓wp_s, ↓wp_0, ↓popI_c, ↓popL_c, ↓popR_c, ↓pop1_i, ↓pop1_r, ↓ldI_0, ↓ldI_s, ↓ldL_0, ↓ldL_s, ↓ldR_0, ↓ldR_s, ↓stL_0, ↓stL_s, ↓tk_0, ↓tk_s, ↓Kc_s, ↓Kc_n, isS_0, isS_s, asP_c, gi_0, gi_s, noL_0, noL_s, isW_n, isW_i, isW_r, rcv_c, rcvT_c, swK_0, swK_s, catS, or_false, false_or, not_false_eq_true, not_true_eq_false, true_implies, false_implies, and_true, true_and, ↓reduceIte, Nat.reduceAdd, Nat.reduceLT, Nat.reduceLeDiff, Nat.reduceEqDiff, Nat.reduceSub, forall_const, eq_self, and_self, or_true, true_or, ne10]
    exact i2
  · rw [if_neg hc]
    refine ⟨I, eqZ.rf, ?_⟩
    refine Ct.run okX10_weights TX10_weights [] 60 rfl rfl ?_
    simp only [↓tX10_weights, ↓opPush, ↓opILoad, ↓opLLoad, ↓opALoad, ↓opIStore, ↓opAStore, ↓opLStore, ↓opIInc, ↓opI1, ↓opII, ↓opID, ↓opLL, ↓opLD, ↓opLI, ↓opI2L, ↓opL2I, ↓opLcmp, ↓opDup, ↓opDupX1, ↓opDup2, ↓opPop, ↓opIf1, ↓opIf2, ↓opGoto, ↓opIRet, ↓opZRet, ↓opLRet, ↓opVRet, ↓opGetI, ↓opGetL, ↓opGetR, ↓opPutI, ↓opPutZ, ↓opPutL, ↓opPutR, ↓opIALoad, ↓opBALoad, ↓opZALoad, ↓opLALoad, ↓opAALoad, ↓opIAStore, ↓opZAStore, ↓opLAStore, ↓opALen, ↓opGetS, ↓opGetC, ↓opStrV, ↓opStrC, ↓opCallV, ↓opCallS, ↓opSw, ↓opCopy, ↓opCallT, ↓opBRet, ↓opObjI, ↓opNew, ↓opNewA, ↓opANew, ↓opAAStore, ↓opMNew, ↓opCallI, ↓wp_s, ↓wp_0, ↓popI_c, ↓popL_c, ↓popR_c, ↓pop1_i, ↓pop1_r, ↓ldI_0, ↓ldI_s, ↓ldL_0, ↓ldL_s, ↓ldR_0, ↓ldR_s, ↓stL_0, ↓stL_s, ↓tk_0, ↓tk_s, ↓Kc_s, ↓Kc_n, isS_0, isS_s, asP_c, gi_0, gi_s, noL_0, noL_s, isW_n, isW_i, isW_r, rcv_c, rcvT_c, swK_0, swK_s, catS, or_false, false_or, not_false_eq_true, not_true_eq_false, true_implies, false_implies, and_true, true_and, ↓reduceIte, Nat.reduceAdd, Nat.reduceLT, Nat.reduceLeDiff, Nat.reduceEqDiff, Nat.reduceSub, forall_const, eq_self, and_self, or_true, true_or, lve_i, lve_r, lve_l, lve_0, List.replicate_succ, List.replicate_zero, mX, mX10_weights, hG.o 0 10 rfl rfl, ↓asP_h (hG.p 0 0 1 rfl rfl), ↓asP_h (hG.p 0 1 3 rfl rfl), ↓asP_h (hG.p 0 2 15 rfl rfl), ↓asP_h (hG.p 0 3 23 rfl rfl), ↓asP_h (hG.p 0 4 27 rfl rfl), ↓asP_h (hG.p 0 5 36 rfl rfl), ↓asP_h (hG.p 0 6 41 rfl rfl), ↓asP_h (hG.p 0 7 45 rfl rfl), ↓asP_h (hG.p 0 8 247 rfl rfl), ↓asP_h (hG.p 0 9 252 rfl rfl), ↓asP_h (hG.p 0 10 256 rfl rfl), ↓asP_h (hG.p 0 11 262 rfl rfl), hG.o 262 100 rfl rfl, (hG.o 262 100 rfl rfl).A, hG.l 262 5 rfl rfl, ↓asP_h (hG.p 0 12 263 rfl rfl), hG.o 263 104 rfl rfl, hG.l 263 9 rfl rfl, ↓asP_h (hG.p 0 13 264 rfl rfl), hG.o 264 100 rfl rfl, (hG.o 264 100 rfl rfl).A, hG.l 264 9 rfl rfl, ↓asP_h (hG.p 0 14 265 rfl rfl), hG.o 265 100 rfl rfl, (hG.o 265 100 rfl rfl).A, hG.l 265 9 rfl rfl]
    refine ⟨_, _, _, _, rfl, c_isToldGrudge hG _, ?_⟩
    rw [bInt_f hc]
    simp only [↓tX10_weights, ↓opPush, ↓opILoad, ↓opLLoad, ↓opALoad, ↓opIStore, ↓opAStore, ↓opLStore, ↓opIInc, ↓opI1, ↓opII, ↓opID, ↓opLL, ↓opLD, ↓opLI, ↓opI2L, ↓opL2I, ↓opLcmp, ↓opDup, ↓opDupX1, ↓opDup2, ↓opPop, ↓opIf1, ↓opIf2, ↓opGoto, ↓opIRet, ↓opZRet, ↓opLRet, ↓opVRet, ↓opGetI, ↓opGetL, ↓opGetR, ↓opPutI, ↓opPutZ, ↓opPutL, ↓opPutR, ↓opIALoad, ↓opBALoad, ↓opZALoad, ↓opLALoad, ↓opAALoad, ↓opIAStore, ↓opZAStore, ↓opLAStore, ↓opALen, ↓opGetS, ↓opGetC, ↓opStrV, ↓opStrC, ↓opCallV, ↓opCallS, ↓opSw, ↓opCopy, ↓opCallT, ↓opBRet, ↓opObjI, ↓opNew, ↓opNewA, ↓opANew, ↓opAAStore, ↓opMNew, ↓opCallI, ↓wp_s, ↓wp_0, ↓popI_c, ↓popL_c, ↓popR_c, ↓pop1_i, ↓pop1_r, ↓ldI_0, ↓ldI_s, ↓ldL_0, ↓ldL_s, ↓ldR_0, ↓ldR_s, ↓stL_0, ↓stL_s, ↓tk_0, ↓tk_s, ↓Kc_s, ↓Kc_n, isS_0, isS_s, asP_c, gi_0, gi_s, noL_0, noL_s, isW_n, isW_i, isW_r, rcv_c, rcvT_c, swK_0, swK_s, catS, or_false, false_or, not_false_eq_true, not_true_eq_false, true_implies, false_implies, and_true, true_and, ↓reduceIte, Nat.reduceAdd, Nat.reduceLT, Nat.reduceLeDiff, Nat.reduceEqDiff, Nat.reduceSub, forall_const, eq_self, and_self, or_true, true_or]
set_option maxRecDepth 100000 in
set_option maxHeartbeats 4000000 in
theorem m_whom (hG : GTs G) (h15 : rng (I 15 1) 10) (h0 : rng (I 15 0) 5) (h1 : I 15 0 ≠ 0) (hS : SeenOK I) (g n : Int32) : ∃ I', eqZ I I' ∧ Run E (d + 4) mX10_whom [.ref 0, .int g, .int n] (0, 0) G I (some (.int (aWhom I g n))) G I' := by
  unfold aWhom
  by_cases hc : oWhom I g n
  · rw [if_pos hc]
    obtain ⟨hg0, hn1, hn2⟩ := hc
    obtain ⟨gg, hg, rfl⟩ := tg_lt h15 hg0
    have hn3 : ∃ nn : Nat, 1 ≤ nn ∧ nn ≤ 30 ∧ n = nI nn := by
      have h3 : ¬ n < 0 := fun q => hn1 (by rw [fa_lt] at q ⊢; have : (0 : Int32).toInt = 0 := rfl; have : (1 : Int32).toInt = 1 := rfl; omega)
      obtain ⟨j, hj, rfl⟩ := nI_of2 (M := 30) (n := 30) rfl h3 hn2
      refine ⟨j, ?_, hj, rfl⟩
      by_cases e : j = 0
      · subst e; exact absurd (by decide) hn1
      · omega
    obtain ⟨nn, hnn1, hnn2, rfl⟩ := hn3
    obtain ⟨P, hP, eP⟩ := h0
    have hP1 : 1 ≤ P := by
      by_cases z : P = 0
      · subst z; exact absurd eP h1
      · omega
    have key : ∀ (k w : Nat) (J : IM) (a : Int32) (t : Nat → Int32), w + k = 31 → eqZ I J → (∀ q, q < 5 → J 260 q = t q) → ∃ J', eqZ I J' ∧ (∀ q, q < 5 → J' 260 q = (whF (ftB I (nI gg)) (whS I gg nn) k w a t).2 q) ∧ ∀ Q, Ex E (d + 4) mX10_whom Q 67 [some (.ref 0), some (.int (nI gg)), some (.int (nI nn)), some (.int (whF (ftB I (nI gg)) (whS I gg nn) k w a t).1), some (.int (nI 31))] [] (0, 0) G J' → Ex E (d + 4) mX10_whom Q 33 [some (.ref 0), some (.int (nI gg)), some (.int (nI nn)), some (.int a), some (.int (nI w))] [] (0, 0) G J := by
      intro k
      induction k with
      | zero =>
        intro w J a t hw hJ ht
        obtain rfl : w = 31 := by omega
        refine ⟨J, hJ, ht, fun Q hQ => Ex.run TX10_whom [33, 67] 60 ?_⟩
        simp only [↓tX10_whom, ↓opPush, ↓opILoad, ↓opLLoad, ↓opALoad, ↓opIStore, ↓opAStore, ↓opLStore, ↓opIInc, ↓opI1, ↓opII, ↓opID, ↓opLL, ↓opLD, ↓opLI, ↓opI2L, ↓opL2I, ↓opLcmp, ↓opDup, ↓opDupX1, ↓opDup2, ↓opPop, ↓opIf1, ↓opIf2, ↓opGoto, ↓opIRet, ↓opZRet, ↓opLRet, ↓opVRet, ↓opGetI, ↓opGetL, ↓opGetR, ↓opPutI, ↓opPutZ, ↓opPutL, ↓opPutR, ↓opIALoad, ↓opBALoad, ↓opZALoad, ↓opLALoad, ↓opAALoad, ↓opIAStore, ↓opZAStore, ↓opLAStore, ↓opALen, ↓opGetS, ↓opGetC, ↓opStrV, ↓opStrC, ↓opCallV, ↓opCallS, ↓opSw, ↓opCopy, ↓opCallT, ↓opBRet, ↓opObjI, ↓opNew, ↓opNewA, ↓opANew, ↓opAAStore, ↓opMNew, ↓opCallI, ↓wp_s, ↓wp_0, ↓popI_c, ↓popL_c, ↓popR_c, ↓pop1_i, ↓pop1_r, ↓ldI_0, ↓ldI_s, ↓ldL_0, ↓ldL_s, ↓ldR_0, ↓ldR_s, ↓stL_0, ↓stL_s, ↓tk_0, ↓tk_s, ↓Kc_s, ↓Kc_n, isS_0, isS_s, asP_c, gi_0, gi_s, noL_0, noL_s, isW_n, isW_i, isW_r, rcv_c, rcvT_c, swK_0, swK_s, catS, or_false, false_or, not_false_eq_true, not_true_eq_false, true_implies, false_implies, and_true, true_and, ↓reduceIte, Nat.reduceAdd, Nat.reduceLT, Nat.reduceLeDiff, Nat.reduceEqDiff, Nat.reduceSub, forall_const, eq_self, and_self, or_true, true_or, eq_true (show (30 : Int32) < nI 31 by decide)]
        exact hQ
      | succ k ih =>
        intro w J a t hw hJ ht
        have hlt : ¬ (30 : Int32) < nI w := fun z => absurd ((nI_ltI (a := 30) (by decide) (by omega)).mp z) (by omega)
        have hf := fits_Z (E := E) (d := d) hG hS hJ (g := gg) (by omega) w
        have hJ2 : eqZ I (ftI J gg (nI w)) := hJ.trans (ftI_Z J gg (nI w))
        have ht2 : ∀ q, q < 5 → ftI J gg (nI w) 260 q = t q := fun q hq => by rw [ftI_260]; exact ht q hq
        by_cases c0 : ftB I (nI gg) w = 0
        · obtain ⟨J', i1, i2, i3⟩ := ih (w + 1) _ a t (by omega) hJ2 ht2
          rw [show whF (ftB I (nI gg)) (whS I gg nn) (k + 1) w a t = whF (ftB I (nI gg)) (whS I gg nn) k (w + 1) a t from if_pos c0]
          refine ⟨J', i1, i2, fun Q hQ => Ex.run TX10_whom [33] 60 ?_⟩
          simp only [↓tX10_whom, ↓opPush, ↓opILoad, ↓opLLoad, ↓opALoad, ↓opIStore, ↓opAStore, ↓opLStore, ↓opIInc, ↓opI1, ↓opII, ↓opID, ↓opLL, ↓opLD, ↓opLI, ↓opI2L, ↓opL2I, ↓opLcmp, ↓opDup, ↓opDupX1, ↓opDup2, ↓opPop, ↓opIf1, ↓opIf2, ↓opGoto, ↓opIRet, ↓opZRet, ↓opLRet, ↓opVRet, ↓opGetI, ↓opGetL, ↓opGetR, ↓opPutI, ↓opPutZ, ↓opPutL, ↓opPutR, ↓opIALoad, ↓opBALoad, ↓opZALoad, ↓opLALoad, ↓opAALoad, ↓opIAStore, ↓opZAStore, ↓opLAStore, ↓opALen, ↓opGetS, ↓opGetC, ↓opStrV, ↓opStrC, ↓opCallV, ↓opCallS, ↓opSw, ↓opCopy, ↓opCallT, ↓opBRet, ↓opObjI, ↓opNew, ↓opNewA, ↓opANew, ↓opAAStore, ↓opMNew, ↓opCallI, ↓wp_s, ↓wp_0, ↓popI_c, ↓popL_c, ↓popR_c, ↓pop1_i, ↓pop1_r, ↓ldI_0, ↓ldI_s, ↓ldL_0, ↓ldL_s, ↓ldR_0, ↓ldR_s, ↓stL_0, ↓stL_s, ↓tk_0, ↓tk_s, ↓Kc_s, ↓Kc_n, isS_0, isS_s, asP_c, gi_0, gi_s, noL_0, noL_s, isW_n, isW_i, isW_r, rcv_c, rcvT_c, swK_0, swK_s, catS, or_false, false_or, not_false_eq_true, not_true_eq_false, true_implies, false_implies, and_true, true_and, ↓reduceIte, Nat.reduceAdd, Nat.reduceLT, Nat.reduceLeDiff, Nat.reduceEqDiff, Nat.reduceSub, forall_const, eq_self, and_self, or_true, true_or, hlt, hG.o 0 10 rfl rfl, ↓asP_h (hG.p 0 0 1 rfl rfl), ↓asP_h (hG.p 0 1 3 rfl rfl), ↓asP_h (hG.p 0 2 15 rfl rfl), ↓asP_h (hG.p 0 3 23 rfl rfl), ↓asP_h (hG.p 0 4 27 rfl rfl), ↓asP_h (hG.p 0 5 36 rfl rfl), ↓asP_h (hG.p 0 6 41 rfl rfl), ↓asP_h (hG.p 0 7 45 rfl rfl), ↓asP_h (hG.p 0 8 247 rfl rfl), ↓asP_h (hG.p 0 9 252 rfl rfl), ↓asP_h (hG.p 0 10 256 rfl rfl), ↓asP_h (hG.p 0 11 262 rfl rfl), hG.o 262 100 rfl rfl, (hG.o 262 100 rfl rfl).A, hG.l 262 5 rfl rfl, ↓asP_h (hG.p 0 12 263 rfl rfl), hG.o 263 104 rfl rfl, hG.l 263 9 rfl rfl, ↓asP_h (hG.p 0 13 264 rfl rfl), hG.o 264 100 rfl rfl, (hG.o 264 100 rfl rfl).A, hG.l 264 9 rfl rfl, ↓asP_h (hG.p 0 14 265 rfl rfl), hG.o 265 100 rfl rfl, (hG.o 265 100 rfl rfl).A, hG.l 265 9 rfl rfl]
          refine ⟨_, _, _, _, rfl, hf, ?_⟩
          simp only [↓tX10_whom, ↓opPush, ↓opILoad, ↓opLLoad, ↓opALoad, ↓opIStore, ↓opAStore, ↓opLStore, ↓opIInc, ↓opI1, ↓opII, ↓opID, ↓opLL, ↓opLD, ↓opLI, ↓opI2L, ↓opL2I, ↓opLcmp, ↓opDup, ↓opDupX1, ↓opDup2, ↓opPop, ↓opIf1, ↓opIf2, ↓opGoto, ↓opIRet, ↓opZRet, ↓opLRet, ↓opVRet, ↓opGetI, ↓opGetL, ↓opGetR, ↓opPutI, ↓opPutZ, ↓opPutL, ↓opPutR, ↓opIALoad, ↓opBALoad, ↓opZALoad, ↓opLALoad, ↓opAALoad, ↓opIAStore, ↓opZAStore, ↓opLAStore, ↓opALen, ↓opGetS, ↓opGetC, ↓opStrV, ↓opStrC, ↓opCallV, ↓opCallS, ↓opSw, ↓opCopy, ↓opCallT, ↓opBRet, ↓opObjI, ↓opNew, ↓opNewA, ↓opANew, ↓opAAStore, ↓opMNew, ↓opCallI, ↓wp_s, ↓wp_0, ↓popI_c, ↓popL_c, ↓popR_c, ↓pop1_i, ↓pop1_r, ↓ldI_0, ↓ldI_s, ↓ldL_0, ↓ldL_s, ↓ldR_0, ↓ldR_s, ↓stL_0, ↓stL_s, ↓tk_0, ↓tk_s, ↓Kc_s, ↓Kc_n, isS_0, isS_s, asP_c, gi_0, gi_s, noL_0, noL_s, isW_n, isW_i, isW_r, rcv_c, rcvT_c, swK_0, swK_s, catS, or_false, false_or, not_false_eq_true, not_true_eq_false, true_implies, false_implies, and_true, true_and, ↓reduceIte, Nat.reduceAdd, Nat.reduceLT, Nat.reduceLeDiff, Nat.reduceEqDiff, Nat.reduceSub, forall_const, eq_self, and_self, or_true, true_or, c0, nI_1]
          exact i3 Q hQ
        · have hJ3 : eqZ I (rowN (ftI J gg (nI w)) 260 (tbF (ftI J gg (nI w)) nn) 5) := fun b k hb => by
            rw [rowN_ne (fun z => hb (by subst z; unfold scr; omega))]
            exact hJ2 b k hb
          have ht3 : ∀ q, q < 5 → rowN (ftI J gg (nI w)) 260 (tbF (ftI J gg (nI w)) nn) 5 260 q = whS I gg nn w t q := fun q hq => by
            unfold rowN
            rw [if_pos ⟨rfl, hq⟩]
            unfold tbF whS
            rw [ht2 q hq, ftI_261 J gg (nI w) hnn1 hnn2, itr_Z hJ]
          obtain ⟨J', i1, i2, i3⟩ := ih (w + 1) _ (a + 1) (whS I gg nn w t) (by omega) hJ3 ht3
          rw [show whF (ftB I (nI gg)) (whS I gg nn) (k + 1) w a t = whF (ftB I (nI gg)) (whS I gg nn) k (w + 1) (a + 1) (whS I gg nn w t) from if_neg c0]
          refine ⟨J', i1, i2, fun Q hQ => Ex.run TX10_whom [33] 60 ?_⟩
          simp only [↓tX10_whom, ↓opPush, ↓opILoad, ↓opLLoad, ↓opALoad, ↓opIStore, ↓opAStore, ↓opLStore, ↓opIInc, ↓opI1, ↓opII, ↓opID, ↓opLL, ↓opLD, ↓opLI, ↓opI2L, ↓opL2I, ↓opLcmp, ↓opDup, ↓opDupX1, ↓opDup2, ↓opPop, ↓opIf1, ↓opIf2, ↓opGoto, ↓opIRet, ↓opZRet, ↓opLRet, ↓opVRet, ↓opGetI, ↓opGetL, ↓opGetR, ↓opPutI, ↓opPutZ, ↓opPutL, ↓opPutR, ↓opIALoad, ↓opBALoad, ↓opZALoad, ↓opLALoad, ↓opAALoad, ↓opIAStore, ↓opZAStore, ↓opLAStore, ↓opALen, ↓opGetS, ↓opGetC, ↓opStrV, ↓opStrC, ↓opCallV, ↓opCallS, ↓opSw, ↓opCopy, ↓opCallT, ↓opBRet, ↓opObjI, ↓opNew, ↓opNewA, ↓opANew, ↓opAAStore, ↓opMNew, ↓opCallI, ↓wp_s, ↓wp_0, ↓popI_c, ↓popL_c, ↓popR_c, ↓pop1_i, ↓pop1_r, ↓ldI_0, ↓ldI_s, ↓ldL_0, ↓ldL_s, ↓ldR_0, ↓ldR_s, ↓stL_0, ↓stL_s, ↓tk_0, ↓tk_s, ↓Kc_s, ↓Kc_n, isS_0, isS_s, asP_c, gi_0, gi_s, noL_0, noL_s, isW_n, isW_i, isW_r, rcv_c, rcvT_c, swK_0, swK_s, catS, or_false, false_or, not_false_eq_true, not_true_eq_false, true_implies, false_implies, and_true, true_and, ↓reduceIte, Nat.reduceAdd, Nat.reduceLT, Nat.reduceLeDiff, Nat.reduceEqDiff, Nat.reduceSub, forall_const, eq_self, and_self, or_true, true_or, hlt, hG.o 0 10 rfl rfl, ↓asP_h (hG.p 0 0 1 rfl rfl), ↓asP_h (hG.p 0 1 3 rfl rfl), ↓asP_h (hG.p 0 2 15 rfl rfl), ↓asP_h (hG.p 0 3 23 rfl rfl), ↓asP_h (hG.p 0 4 27 rfl rfl), ↓asP_h (hG.p 0 5 36 rfl rfl), ↓asP_h (hG.p 0 6 41 rfl rfl), ↓asP_h (hG.p 0 7 45 rfl rfl), ↓asP_h (hG.p 0 8 247 rfl rfl), ↓asP_h (hG.p 0 9 252 rfl rfl), ↓asP_h (hG.p 0 10 256 rfl rfl), ↓asP_h (hG.p 0 11 262 rfl rfl), hG.o 262 100 rfl rfl, (hG.o 262 100 rfl rfl).A, hG.l 262 5 rfl rfl, ↓asP_h (hG.p 0 12 263 rfl rfl), hG.o 263 104 rfl rfl, hG.l 263 9 rfl rfl, ↓asP_h (hG.p 0 13 264 rfl rfl), hG.o 264 100 rfl rfl, (hG.o 264 100 rfl rfl).A, hG.l 264 9 rfl rfl, ↓asP_h (hG.p 0 14 265 rfl rfl), hG.o 265 100 rfl rfl, (hG.o 265 100 rfl rfl).A, hG.l 265 9 rfl rfl]
          refine ⟨_, _, _, _, rfl, hf, ?_⟩
          simp only [↓tX10_whom, ↓opPush, ↓opILoad, ↓opLLoad, ↓opALoad, ↓opIStore, ↓opAStore, ↓opLStore, ↓opIInc, ↓opI1, ↓opII, ↓opID, ↓opLL, ↓opLD, ↓opLI, ↓opI2L, ↓opL2I, ↓opLcmp, ↓opDup, ↓opDupX1, ↓opDup2, ↓opPop, ↓opIf1, ↓opIf2, ↓opGoto, ↓opIRet, ↓opZRet, ↓opLRet, ↓opVRet, ↓opGetI, ↓opGetL, ↓opGetR, ↓opPutI, ↓opPutZ, ↓opPutL, ↓opPutR, ↓opIALoad, ↓opBALoad, ↓opZALoad, ↓opLALoad, ↓opAALoad, ↓opIAStore, ↓opZAStore, ↓opLAStore, ↓opALen, ↓opGetS, ↓opGetC, ↓opStrV, ↓opStrC, ↓opCallV, ↓opCallS, ↓opSw, ↓opCopy, ↓opCallT, ↓opBRet, ↓opObjI, ↓opNew, ↓opNewA, ↓opANew, ↓opAAStore, ↓opMNew, ↓opCallI, ↓wp_s, ↓wp_0, ↓popI_c, ↓popL_c, ↓popR_c, ↓pop1_i, ↓pop1_r, ↓ldI_0, ↓ldI_s, ↓ldL_0, ↓ldL_s, ↓ldR_0, ↓ldR_s, ↓stL_0, ↓stL_s, ↓tk_0, ↓tk_s, ↓Kc_s, ↓Kc_n, isS_0, isS_s, asP_c, gi_0, gi_s, noL_0, noL_s, isW_n, isW_i, isW_r, rcv_c, rcvT_c, swK_0, swK_s, catS, or_false, false_or, not_false_eq_true, not_true_eq_false, true_implies, false_implies, and_true, true_and, ↓reduceIte, Nat.reduceAdd, Nat.reduceLT, Nat.reduceLeDiff, Nat.reduceEqDiff, Nat.reduceSub, forall_const, eq_self, and_self, or_true, true_or, c0, nI_1, hG.o 0 10 rfl rfl, ↓asP_h (hG.p 0 10 256 rfl rfl), hG.o 256 4 rfl rfl]
          refine ⟨_, _, _, _, rfl, c_tallyBehind hG (by omega), ?_⟩
          simp only [↓tX10_whom, ↓opPush, ↓opILoad, ↓opLLoad, ↓opALoad, ↓opIStore, ↓opAStore, ↓opLStore, ↓opIInc, ↓opI1, ↓opII, ↓opID, ↓opLL, ↓opLD, ↓opLI, ↓opI2L, ↓opL2I, ↓opLcmp, ↓opDup, ↓opDupX1, ↓opDup2, ↓opPop, ↓opIf1, ↓opIf2, ↓opGoto, ↓opIRet, ↓opZRet, ↓opLRet, ↓opVRet, ↓opGetI, ↓opGetL, ↓opGetR, ↓opPutI, ↓opPutZ, ↓opPutL, ↓opPutR, ↓opIALoad, ↓opBALoad, ↓opZALoad, ↓opLALoad, ↓opAALoad, ↓opIAStore, ↓opZAStore, ↓opLAStore, ↓opALen, ↓opGetS, ↓opGetC, ↓opStrV, ↓opStrC, ↓opCallV, ↓opCallS, ↓opSw, ↓opCopy, ↓opCallT, ↓opBRet, ↓opObjI, ↓opNew, ↓opNewA, ↓opANew, ↓opAAStore, ↓opMNew, ↓opCallI, ↓wp_s, ↓wp_0, ↓popI_c, ↓popL_c, ↓popR_c, ↓pop1_i, ↓pop1_r, ↓ldI_0, ↓ldI_s, ↓ldL_0, ↓ldL_s, ↓ldR_0, ↓ldR_s, ↓stL_0, ↓stL_s, ↓tk_0, ↓tk_s, ↓Kc_s, ↓Kc_n, isS_0, isS_s, asP_c, gi_0, gi_s, noL_0, noL_s, isW_n, isW_i, isW_r, rcv_c, rcvT_c, swK_0, swK_s, catS, or_false, false_or, not_false_eq_true, not_true_eq_false, true_implies, false_implies, and_true, true_and, ↓reduceIte, Nat.reduceAdd, Nat.reduceLT, Nat.reduceLeDiff, Nat.reduceEqDiff, Nat.reduceSub, forall_const, eq_self, and_self, or_true, true_or, nI_1]
          exact i3 Q hQ
    have hJ0 : eqZ I (rowN I 260 (fun _ => 0) 5) := fun b k hb => by
      rw [rowN_ne (fun z => hb (by subst z; unfold scr; omega))]
    obtain ⟨J', i1, i2, i3⟩ := key 30 1 (rowN I 260 (fun _ => 0) 5) 0 (fun _ => 0) rfl hJ0 (fun q hq => by unfold rowN; rw [if_pos ⟨rfl, hq⟩])
    have eR : whF (ftB I (nI gg)) (whS I gg nn) 30 1 0 (fun _ => 0) = whR I (nI gg) (nI nn) := by
      unfold whR
      rw [nI_clamp (n := gg) (by omega), nI_clamp (n := nn) (by omega)]
    rw [eR] at i2 i3
    have e15 : J' 15 0 = nI P := by rw [i1 15 0 (scr_n (by omega) _)]; exact eP
    have hev := c_evenest (E := E) (d := d + 2) (I := J') hG hP1 hP (whR I (nI gg) (nI nn)).1
    rw [ev_congr _ i2 (P - 1) (by omega)] at hev
    refine ⟨J', i1, ?_⟩
    rw [eP, nI_clamp (n := P) (by omega)]
    refine Ct.run okX10_whom TX10_whom [33] 60 rfl rfl ?_
    simp only [↓tX10_whom, ↓opPush, ↓opILoad, ↓opLLoad, ↓opALoad, ↓opIStore, ↓opAStore, ↓opLStore, ↓opIInc, ↓opI1, ↓opII, ↓opID, ↓opLL, ↓opLD, ↓opLI, ↓opI2L, ↓opL2I, ↓opLcmp, ↓opDup, ↓opDupX1, ↓opDup2, ↓opPop, ↓opIf1, ↓opIf2, ↓opGoto, ↓opIRet, ↓opZRet, ↓opLRet, ↓opVRet, ↓opGetI, ↓opGetL, ↓opGetR, ↓opPutI, ↓opPutZ, ↓opPutL, ↓opPutR, ↓opIALoad, ↓opBALoad, ↓opZALoad, ↓opLALoad, ↓opAALoad, ↓opIAStore, ↓opZAStore, ↓opLAStore, ↓opALen, ↓opGetS, ↓opGetC, ↓opStrV, ↓opStrC, ↓opCallV, ↓opCallS, ↓opSw, ↓opCopy, ↓opCallT, ↓opBRet, ↓opObjI, ↓opNew, ↓opNewA, ↓opANew, ↓opAAStore, ↓opMNew, ↓opCallI, ↓wp_s, ↓wp_0, ↓popI_c, ↓popL_c, ↓popR_c, ↓pop1_i, ↓pop1_r, ↓ldI_0, ↓ldI_s, ↓ldL_0, ↓ldL_s, ↓ldR_0, ↓ldR_s, ↓stL_0, ↓stL_s, ↓tk_0, ↓tk_s, ↓Kc_s, ↓Kc_n, isS_0, isS_s, asP_c, gi_0, gi_s, noL_0, noL_s, isW_n, isW_i, isW_r, rcv_c, rcvT_c, swK_0, swK_s, catS, or_false, false_or, not_false_eq_true, not_true_eq_false, true_implies, false_implies, and_true, true_and, ↓reduceIte, Nat.reduceAdd, Nat.reduceLT, Nat.reduceLeDiff, Nat.reduceEqDiff, Nat.reduceSub, forall_const, eq_self, and_self, or_true, true_or, lve_i, lve_r, lve_l, lve_0, List.replicate_succ, List.replicate_zero, mX, mX10_whom, hG.o 0 10 rfl rfl, ↓asP_h (hG.p 0 0 1 rfl rfl), ↓asP_h (hG.p 0 1 3 rfl rfl), ↓asP_h (hG.p 0 2 15 rfl rfl), ↓asP_h (hG.p 0 3 23 rfl rfl), ↓asP_h (hG.p 0 4 27 rfl rfl), ↓asP_h (hG.p 0 5 36 rfl rfl), ↓asP_h (hG.p 0 6 41 rfl rfl), ↓asP_h (hG.p 0 7 45 rfl rfl), ↓asP_h (hG.p 0 8 247 rfl rfl), ↓asP_h (hG.p 0 9 252 rfl rfl), ↓asP_h (hG.p 0 10 256 rfl rfl), ↓asP_h (hG.p 0 11 262 rfl rfl), hG.o 262 100 rfl rfl, (hG.o 262 100 rfl rfl).A, hG.l 262 5 rfl rfl, ↓asP_h (hG.p 0 12 263 rfl rfl), hG.o 263 104 rfl rfl, hG.l 263 9 rfl rfl, ↓asP_h (hG.p 0 13 264 rfl rfl), hG.o 264 100 rfl rfl, (hG.o 264 100 rfl rfl).A, hG.l 264 9 rfl rfl, ↓asP_h (hG.p 0 14 265 rfl rfl), hG.o 265 100 rfl rfl, (hG.o 265 100 rfl rfl).A, hG.l 265 9 rfl rfl]
    refine ⟨_, _, _, _, rfl, c_isToldGrudge hG _, ?_⟩
    rw [bInt_t hg0]
    simp only [↓tX10_whom, ↓opPush, ↓opILoad, ↓opLLoad, ↓opALoad, ↓opIStore, ↓opAStore, ↓opLStore, ↓opIInc, ↓opI1, ↓opII, ↓opID, ↓opLL, ↓opLD, ↓opLI, ↓opI2L, ↓opL2I, ↓opLcmp, ↓opDup, ↓opDupX1, ↓opDup2, ↓opPop, ↓opIf1, ↓opIf2, ↓opGoto, ↓opIRet, ↓opZRet, ↓opLRet, ↓opVRet, ↓opGetI, ↓opGetL, ↓opGetR, ↓opPutI, ↓opPutZ, ↓opPutL, ↓opPutR, ↓opIALoad, ↓opBALoad, ↓opZALoad, ↓opLALoad, ↓opAALoad, ↓opIAStore, ↓opZAStore, ↓opLAStore, ↓opALen, ↓opGetS, ↓opGetC, ↓opStrV, ↓opStrC, ↓opCallV, ↓opCallS, ↓opSw, ↓opCopy, ↓opCallT, ↓opBRet, ↓opObjI, ↓opNew, ↓opNewA, ↓opANew, ↓opAAStore, ↓opMNew, ↓opCallI, ↓wp_s, ↓wp_0, ↓popI_c, ↓popL_c, ↓popR_c, ↓pop1_i, ↓pop1_r, ↓ldI_0, ↓ldI_s, ↓ldL_0, ↓ldL_s, ↓ldR_0, ↓ldR_s, ↓stL_0, ↓stL_s, ↓tk_0, ↓tk_s, ↓Kc_s, ↓Kc_n, isS_0, isS_s, asP_c, gi_0, gi_s, noL_0, noL_s, isW_n, isW_i, isW_r, rcv_c, rcvT_c, swK_0, swK_s, catS, or_false, false_or, not_false_eq_true, not_true_eq_false, true_implies, false_implies, and_true, true_and, ↓reduceIte, Nat.reduceAdd, Nat.reduceLT, Nat.reduceLeDiff, Nat.reduceEqDiff, Nat.reduceSub, forall_const, eq_self, and_self, or_true, true_or, ne10, hn1, hn2, hG.o 0 10 rfl rfl, ↓asP_h (hG.p 0 10 256 rfl rfl), hG.o 256 4 rfl rfl]
    refine ⟨_, _, _, _, rfl, c_clearTally hG, ?_⟩
    simp only [↓tX10_whom, ↓opPush, ↓opILoad, ↓opLLoad, ↓opALoad, ↓opIStore, ↓opAStore, ↓opLStore, ↓opIInc, ↓opI1, ↓opII, ↓opID, ↓opLL, ↓opLD, ↓opLI, ↓opI2L, ↓opL2I, ↓opLcmp, ↓opDup, ↓opDupX1, ↓opDup2, ↓opPop, ↓opIf1, ↓opIf2, ↓opGoto, ↓opIRet, ↓opZRet, ↓opLRet, ↓opVRet, ↓opGetI, ↓opGetL, ↓opGetR, ↓opPutI, ↓opPutZ, ↓opPutL, ↓opPutR, ↓opIALoad, ↓opBALoad, ↓opZALoad, ↓opLALoad, ↓opAALoad, ↓opIAStore, ↓opZAStore, ↓opLAStore, ↓opALen, ↓opGetS, ↓opGetC, ↓opStrV, ↓opStrC, ↓opCallV, ↓opCallS, ↓opSw, ↓opCopy, ↓opCallT, ↓opBRet, ↓opObjI, ↓opNew, ↓opNewA, ↓opANew, ↓opAAStore, ↓opMNew, ↓opCallI, ↓wp_s, ↓wp_0, ↓popI_c, ↓popL_c, ↓popR_c, ↓pop1_i, ↓pop1_r, ↓ldI_0, ↓ldI_s, ↓ldL_0, ↓ldL_s, ↓ldR_0, ↓ldR_s, ↓stL_0, ↓stL_s, ↓tk_0, ↓tk_s, ↓Kc_s, ↓Kc_n, isS_0, isS_s, asP_c, gi_0, gi_s, noL_0, noL_s, isW_n, isW_i, isW_r, rcv_c, rcvT_c, swK_0, swK_s, catS, or_false, false_or, not_false_eq_true, not_true_eq_false, true_implies, false_implies, and_true, true_and, ↓reduceIte, Nat.reduceAdd, Nat.reduceLT, Nat.reduceLeDiff, Nat.reduceEqDiff, Nat.reduceSub, forall_const, eq_self, and_self, or_true, true_or]
    refine i3 _ ?_
    refine Ex.run TX10_whom [] 60 ?_
    simp only [↓tX10_whom, ↓opPush, ↓opILoad, ↓opLLoad, ↓opALoad, ↓opIStore, ↓opAStore, ↓opLStore, ↓opIInc, ↓opI1, ↓opII, ↓opID, ↓opLL, ↓opLD, ↓opLI, ↓opI2L, ↓opL2I, ↓opLcmp, ↓opDup, ↓opDupX1, ↓opDup2, ↓opPop, ↓opIf1, ↓opIf2, ↓opGoto, ↓opIRet, ↓opZRet, ↓opLRet, ↓opVRet, ↓opGetI, ↓opGetL, ↓opGetR, ↓opPutI, ↓opPutZ, ↓opPutL, ↓opPutR, ↓opIALoad, ↓opBALoad, ↓opZALoad, ↓opLALoad, ↓opAALoad, ↓opIAStore, ↓opZAStore, ↓opLAStore, ↓opALen, ↓opGetS, ↓opGetC, ↓opStrV, ↓opStrC, ↓opCallV, ↓opCallS, ↓opSw, ↓opCopy, ↓opCallT, ↓opBRet, ↓opObjI, ↓opNew, ↓opNewA, ↓opANew, ↓opAAStore, ↓opMNew, ↓opCallI, ↓wp_s, ↓wp_0, ↓popI_c, ↓popL_c, ↓popR_c, ↓pop1_i, ↓pop1_r, ↓ldI_0, ↓ldI_s, ↓ldL_0, ↓ldL_s, ↓ldR_0, ↓ldR_s, ↓stL_0, ↓stL_s, ↓tk_0, ↓tk_s, ↓Kc_s, ↓Kc_n, isS_0, isS_s, asP_c, gi_0, gi_s, noL_0, noL_s, isW_n, isW_i, isW_r, rcv_c, rcvT_c, swK_0, swK_s, catS, or_false, false_or, not_false_eq_true, not_true_eq_false, true_implies, false_implies, and_true, true_and, ↓reduceIte, Nat.reduceAdd, Nat.reduceLT, Nat.reduceLeDiff, Nat.reduceEqDiff, Nat.reduceSub, forall_const, eq_self, and_self, or_true, true_or, hG.o 0 10 rfl rfl, ↓asP_h (hG.p 0 2 15 rfl rfl), ↓asP_h (hG.p 0 10 256 rfl rfl), hG.o 256 4 rfl rfl, hG.o 15 8 rfl rfl, ↓asP_h (hG.p 15 3 16 rfl rfl), hG.o 16 100 rfl rfl, (hG.o 16 100 rfl rfl).A, hG.l 16 5 rfl rfl, ↓asP_h (hG.p 15 4 17 rfl rfl), hG.o 17 100 rfl rfl, (hG.o 17 100 rfl rfl).A, hG.l 17 5 rfl rfl, ↓asP_h (hG.p 15 5 18 rfl rfl), e15]
    refine ⟨fun z => by rw [if_pos z], fun z => ?_⟩
    rw [if_neg z]
    refine ⟨_, _, _, _, rfl, hev, ?_⟩
    simp only [↓tX10_whom, ↓opPush, ↓opILoad, ↓opLLoad, ↓opALoad, ↓opIStore, ↓opAStore, ↓opLStore, ↓opIInc, ↓opI1, ↓opII, ↓opID, ↓opLL, ↓opLD, ↓opLI, ↓opI2L, ↓opL2I, ↓opLcmp, ↓opDup, ↓opDupX1, ↓opDup2, ↓opPop, ↓opIf1, ↓opIf2, ↓opGoto, ↓opIRet, ↓opZRet, ↓opLRet, ↓opVRet, ↓opGetI, ↓opGetL, ↓opGetR, ↓opPutI, ↓opPutZ, ↓opPutL, ↓opPutR, ↓opIALoad, ↓opBALoad, ↓opZALoad, ↓opLALoad, ↓opAALoad, ↓opIAStore, ↓opZAStore, ↓opLAStore, ↓opALen, ↓opGetS, ↓opGetC, ↓opStrV, ↓opStrC, ↓opCallV, ↓opCallS, ↓opSw, ↓opCopy, ↓opCallT, ↓opBRet, ↓opObjI, ↓opNew, ↓opNewA, ↓opANew, ↓opAAStore, ↓opMNew, ↓opCallI, ↓wp_s, ↓wp_0, ↓popI_c, ↓popL_c, ↓popR_c, ↓pop1_i, ↓pop1_r, ↓ldI_0, ↓ldI_s, ↓ldL_0, ↓ldL_s, ↓ldR_0, ↓ldR_s, ↓stL_0, ↓stL_s, ↓tk_0, ↓tk_s, ↓Kc_s, ↓Kc_n, isS_0, isS_s, asP_c, gi_0, gi_s, noL_0, noL_s, isW_n, isW_i, isW_r, rcv_c, rcvT_c, swK_0, swK_s, catS, or_false, false_or, not_false_eq_true, not_true_eq_false, true_implies, false_implies, and_true, true_and, ↓reduceIte, Nat.reduceAdd, Nat.reduceLT, Nat.reduceLeDiff, Nat.reduceEqDiff, Nat.reduceSub, forall_const, eq_self, and_self, or_true, true_or]
  · rw [if_neg hc]
    refine ⟨I, eqZ.rf, ?_⟩
    have bad : Ex E (d + 4) mX10_whom (fun a b z => a = some (.int (-1)) ∧ b = G ∧ z = I) 19 [some (.ref 0), some (.int g), some (.int n), none, none] [] (0, 0) G I := by
      refine Ex.run TX10_whom [] 60 ?_
      simp only [↓tX10_whom, ↓opPush, ↓opILoad, ↓opLLoad, ↓opALoad, ↓opIStore, ↓opAStore, ↓opLStore, ↓opIInc, ↓opI1, ↓opII, ↓opID, ↓opLL, ↓opLD, ↓opLI, ↓opI2L, ↓opL2I, ↓opLcmp, ↓opDup, ↓opDupX1, ↓opDup2, ↓opPop, ↓opIf1, ↓opIf2, ↓opGoto, ↓opIRet, ↓opZRet, ↓opLRet, ↓opVRet, ↓opGetI, ↓opGetL, ↓opGetR, ↓opPutI, ↓opPutZ, ↓opPutL, ↓opPutR, ↓opIALoad, ↓opBALoad, ↓opZALoad, ↓opLALoad, ↓opAALoad, ↓opIAStore, ↓opZAStore, ↓opLAStore, ↓opALen, ↓opGetS, ↓opGetC, ↓opStrV, ↓opStrC, ↓opCallV, ↓opCallS, ↓opSw, ↓opCopy, ↓opCallT, ↓opBRet, ↓opObjI, ↓opNew, ↓opNewA, ↓opANew, ↓opAAStore, ↓opMNew, ↓opCallI, ↓wp_s, ↓wp_0, ↓popI_c, ↓popL_c, ↓popR_c, ↓pop1_i, ↓pop1_r, ↓ldI_0, ↓ldI_s, ↓ldL_0, ↓ldL_s, ↓ldR_0, ↓ldR_s, ↓stL_0, ↓stL_s, ↓tk_0, ↓tk_s, ↓Kc_s, ↓Kc_n, isS_0, isS_s, asP_c, gi_0, gi_s, noL_0, noL_s, isW_n, isW_i, isW_r, rcv_c, rcvT_c, swK_0, swK_s, catS, or_false, false_or, not_false_eq_true, not_true_eq_false, true_implies, false_implies, and_true, true_and, ↓reduceIte, Nat.reduceAdd, Nat.reduceLT, Nat.reduceLeDiff, Nat.reduceEqDiff, Nat.reduceSub, forall_const, eq_self, and_self, or_true, true_or]
    refine Ct.run okX10_whom TX10_whom [19, 21] 60 rfl rfl ?_
    simp only [↓tX10_whom, ↓opPush, ↓opILoad, ↓opLLoad, ↓opALoad, ↓opIStore, ↓opAStore, ↓opLStore, ↓opIInc, ↓opI1, ↓opII, ↓opID, ↓opLL, ↓opLD, ↓opLI, ↓opI2L, ↓opL2I, ↓opLcmp, ↓opDup, ↓opDupX1, ↓opDup2, ↓opPop, ↓opIf1, ↓opIf2, ↓opGoto, ↓opIRet, ↓opZRet, ↓opLRet, ↓opVRet, ↓opGetI, ↓opGetL, ↓opGetR, ↓opPutI, ↓opPutZ, ↓opPutL, ↓opPutR, ↓opIALoad, ↓opBALoad, ↓opZALoad, ↓opLALoad, ↓opAALoad, ↓opIAStore, ↓opZAStore, ↓opLAStore, ↓opALen, ↓opGetS, ↓opGetC, ↓opStrV, ↓opStrC, ↓opCallV, ↓opCallS, ↓opSw, ↓opCopy, ↓opCallT, ↓opBRet, ↓opObjI, ↓opNew, ↓opNewA, ↓opANew, ↓opAAStore, ↓opMNew, ↓opCallI, ↓wp_s, ↓wp_0, ↓popI_c, ↓popL_c, ↓popR_c, ↓pop1_i, ↓pop1_r, ↓ldI_0, ↓ldI_s, ↓ldL_0, ↓ldL_s, ↓ldR_0, ↓ldR_s, ↓stL_0, ↓stL_s, ↓tk_0, ↓tk_s, ↓Kc_s, ↓Kc_n, isS_0, isS_s, asP_c, gi_0, gi_s, noL_0, noL_s, isW_n, isW_i, isW_r, rcv_c, rcvT_c, swK_0, swK_s, catS, or_false, false_or, not_false_eq_true, not_true_eq_false, true_implies, false_implies, and_true, true_and, ↓reduceIte, Nat.reduceAdd, Nat.reduceLT, Nat.reduceLeDiff, Nat.reduceEqDiff, Nat.reduceSub, forall_const, eq_self, and_self, or_true, true_or, lve_i, lve_r, lve_l, lve_0, List.replicate_succ, List.replicate_zero, mX, mX10_whom, hG.o 0 10 rfl rfl, ↓asP_h (hG.p 0 0 1 rfl rfl), ↓asP_h (hG.p 0 1 3 rfl rfl), ↓asP_h (hG.p 0 2 15 rfl rfl), ↓asP_h (hG.p 0 3 23 rfl rfl), ↓asP_h (hG.p 0 4 27 rfl rfl), ↓asP_h (hG.p 0 5 36 rfl rfl), ↓asP_h (hG.p 0 6 41 rfl rfl), ↓asP_h (hG.p 0 7 45 rfl rfl), ↓asP_h (hG.p 0 8 247 rfl rfl), ↓asP_h (hG.p 0 9 252 rfl rfl), ↓asP_h (hG.p 0 10 256 rfl rfl), ↓asP_h (hG.p 0 11 262 rfl rfl), hG.o 262 100 rfl rfl, (hG.o 262 100 rfl rfl).A, hG.l 262 5 rfl rfl, ↓asP_h (hG.p 0 12 263 rfl rfl), hG.o 263 104 rfl rfl, hG.l 263 9 rfl rfl, ↓asP_h (hG.p 0 13 264 rfl rfl), hG.o 264 100 rfl rfl, (hG.o 264 100 rfl rfl).A, hG.l 264 9 rfl rfl, ↓asP_h (hG.p 0 14 265 rfl rfl), hG.o 265 100 rfl rfl, (hG.o 265 100 rfl rfl).A, hG.l 265 9 rfl rfl]
    refine ⟨_, _, _, _, rfl, c_isToldGrudge hG _, ?_⟩
    simp only [↓tX10_whom, ↓opPush, ↓opILoad, ↓opLLoad, ↓opALoad, ↓opIStore, ↓opAStore, ↓opLStore, ↓opIInc, ↓opI1, ↓opII, ↓opID, ↓opLL, ↓opLD, ↓opLI, ↓opI2L, ↓opL2I, ↓opLcmp, ↓opDup, ↓opDupX1, ↓opDup2, ↓opPop, ↓opIf1, ↓opIf2, ↓opGoto, ↓opIRet, ↓opZRet, ↓opLRet, ↓opVRet, ↓opGetI, ↓opGetL, ↓opGetR, ↓opPutI, ↓opPutZ, ↓opPutL, ↓opPutR, ↓opIALoad, ↓opBALoad, ↓opZALoad, ↓opLALoad, ↓opAALoad, ↓opIAStore, ↓opZAStore, ↓opLAStore, ↓opALen, ↓opGetS, ↓opGetC, ↓opStrV, ↓opStrC, ↓opCallV, ↓opCallS, ↓opSw, ↓opCopy, ↓opCallT, ↓opBRet, ↓opObjI, ↓opNew, ↓opNewA, ↓opANew, ↓opAAStore, ↓opMNew, ↓opCallI, ↓wp_s, ↓wp_0, ↓popI_c, ↓popL_c, ↓popR_c, ↓pop1_i, ↓pop1_r, ↓ldI_0, ↓ldI_s, ↓ldL_0, ↓ldL_s, ↓ldR_0, ↓ldR_s, ↓stL_0, ↓stL_s, ↓tk_0, ↓tk_s, ↓Kc_s, ↓Kc_n, isS_0, isS_s, asP_c, gi_0, gi_s, noL_0, noL_s, isW_n, isW_i, isW_r, rcv_c, rcvT_c, swK_0, swK_s, catS, or_false, false_or, not_false_eq_true, not_true_eq_false, true_implies, false_implies, and_true, true_and, ↓reduceIte, Nat.reduceAdd, Nat.reduceLT, Nat.reduceLeDiff, Nat.reduceEqDiff, Nat.reduceSub, forall_const, eq_self, and_self, or_true, true_or, bInt_0]
    exact ⟨fun _ => bad, fun c1 => ⟨fun _ => bad, fun c2 => ⟨fun c3 => absurd ⟨Decidable.not_not.mp c1, c2, c3⟩ hc, fun _ => bad⟩⟩⟩
end
