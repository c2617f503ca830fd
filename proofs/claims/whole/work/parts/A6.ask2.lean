/-! ===== class and reference: weights, whom, games, rests, most ===== -/
theorem cn_congr {r r' v : Nat → Int32} {i : Int32} : ∀ (k m : Nat) (a : Int32), (∀ x, m ≤ x → x < m + k → r x = r' x) → cnF r v i k m a = cnF r' v i k m a
  | 0, _, _, _ => rfl
  | k + 1, m, a, h => by
    rw [cnF_s, cnF_s, h m (Nat.le_refl _) (by omega), cn_congr k (m + 1) a (fun x h1 h2 => h x (by omega) (by omega)), cn_congr k (m + 1) (a + 1) (fun x h1 h2 => h x (by omega) (by omega))]
theorem wh_congr {p p' : Nat → Int32} {s s' : Nat → (Nat → Int32) → Nat → Int32} (hs : ∀ w t, s w t = s' w t) : ∀ (k w : Nat) (a : Int32) (t : Nat → Int32), (∀ x, p x = p' x) → whF p s k w a t = whF p' s' k w a t
  | 0, _, _, _, _ => rfl
  | k + 1, w, a, t, h => by
    show (if p w = 0 then whF p s k (w + 1) a t else whF p s k (w + 1) (a + 1) (s w t)) = if p' w = 0 then whF p' s' k (w + 1) a t else whF p' s' k (w + 1) (a + 1) (s' w t)
    rw [h w, hs w t, wh_congr hs k (w + 1) a t h, wh_congr hs k (w + 1) (a + 1) (s' w t) h]
section
variable {E : EV} {d : Nat} {G : GD} {I : IM}
/- a told grudge so heavy, in both -/
theorem wu_eq {P T : Nat} (hP : JP I P T) (g w : Nat) : eqS (ftV I g (nI w)) (wuV I P T g w) := eqS_up hP.2.2.2.2.1 3 g (nI w)
theorem it_eq {P T : Nat} (hP : JP I P T) (n g w : Nat) : itr (I 15 2) n (ftV I g (nI w)) 0 4 = itr (I 325 0) n (wuV I P T g w) 0 4 := by
  rw [hP.2.2.1.1]
  exact eqS_itr n (wu_eq hP g w) 0 4 in04
theorem ft_wt {P T t : Nat} (hP : JP I P T) (hS : JS I t) (g : Int32) (w : Nat) : ftB I g w = bInt (wtP I (I 325 0) (wuV I P T g.toNatClampNeg w) t) := by
  unfold ftB
  rw [hS.2.1, nI_clamp (by have := hS.1; omega)]
  refine bInt_congr ?_
  unfold ftP wtP
  refine forall_congr' (fun k => ?_)
  refine forall_congr' (fun hk => ?_)
  obtain ⟨e1, e2, e3, -⟩ := hS.2.2.2 k hk
  rw [shb, it_eq hP, e1, e2, e3]
theorem tg_eq {P T : Nat} (hP : JP I P T) (g : Int32) : oTg I g ↔ ¬ P = 0 ∧ ¬ g < 0 ∧ ¬ nI T ≤ g := by
  unfold oTg
  rw [hP.2.1.2.2.1]
  constructor
  · rintro ⟨a, b⟩
    refine ⟨fun z => ?_, a, b⟩
    rw [hP.1.2.2 z] at b
    exact b (Int32.not_lt.mp a)
  · rintro ⟨-, a, b⟩
    exact ⟨a, b⟩
theorem j_weights (hX : JX G I) (g i : Int32) : JRes E d G I mX10_weights mX11_weights [.int g, .int i] := by
  obtain ⟨hG, hv, -, -, ⟨P, T, hP, A, ptr, dm, hB⟩, ⟨t, hS⟩, -⟩ := id hX
  obtain ⟨I1, z, r1⟩ := m_weights (E := E) (d := d + 56) hG hP.r1 hS.ok g i
  obtain ⟨-, -, ⟨P', T', hP1, -⟩, -, -⟩ : JI I1 := hX.2.2.Z z
  clear hP1
  have hP1 : JP I1 P T := hP.fr (fun b k q => z b k (by unfold rdP at q; unfold scr; omega))
  have hS1 : JS I1 t := hS.fr (fun b k q => z b k (by unfold rdS at q; unfold scr; omega))
  have e1 : rv I1 = rv I := rv_congr (Z311 z 328 (by decide))
  have r2 := at_V (I := I1) (by rw [e1]; exact hB.st) (r_weights (E := E) (d := d + 52) (I := I1) (V := getS I 36) hG hP1.1.1 hP1.2.1.2.1 hP1.1.2.1 hP1.2.1.2.2.2 (by rw [hP1.2.2.1.1]; exact f10 hP1.2.2.1.2) hS1.not hP1.2.2.2.2.2 g i)
  refine JRes.q hX z r1 ?_
  have ea : aWts I g i = if ¬ P = 0 ∧ ¬ g < 0 ∧ ¬ nI T ≤ g then cnF (fun w => bInt (wtP I1 (I1 325 0) (wuV I1 P T g.toNatClampNeg w) t)) nI i 30 1 0 else -1 := by
    unfold aWts
    have ef : ftB I g = fun w => bInt (wtP I1 (I1 325 0) (wuV I1 P T g.toNatClampNeg w) t) := by
      funext w
      rw [← ft_wt hP1 hS1]
      unfold ftB
      rw [z.at' (b := 256) (k := 5) (by unfold scr; omega)]
      exact (bInt_congr (ftP_Z z _ _ _)).symm
    by_cases c : oTg I g
    · rw [if_pos c, if_pos ((tg_eq hP g).mp c), ef]
    · rw [if_neg c, if_neg (fun z => c ((tg_eq hP g).mpr z))]
  rw [ea]
  exact r2
set_option maxRecDepth 100000 in
set_option maxHeartbeats 4000000 in
theorem m_whom0 (hG : GTs G) {g n : Int32} (h : ¬ oTg I g) : Run E (d + 1) mX10_whom [.ref 0, .int g, .int n] (0, 0) G I (some (.int (-1))) G I := by
  refine Ct.run okX10_whom TX10_whom [] 60 rfl rfl ?_
  simp only [↓tX10_whom, ↓opPush, ↓opILoad, ↓opLLoad, ↓opALoad, ↓opIStore, ↓opAStore, ↓opLStore, ↓opIInc, ↓opI1, ↓opII, ↓opID, ↓opLL, ↓opLD, ↓opLI, ↓opI2L, ↓opL2I, ↓opLcmp, ↓opDup, ↓opDupX1, ↓opDup2, ↓opPop, ↓opIf1, ↓opIf2, ↓opGoto, ↓opIRet, ↓opZRet, ↓opLRet, ↓opVRet, ↓opGetI, ↓opGetL, ↓opGetR, ↓opPutI, ↓opPutZ, ↓opPutL, ↓opPutR, ↓opIALoad, ↓opBALoad, ↓opZALoad, ↓opLALoad, ↓opAALoad, ↓opIAStore, ↓opZAStore, ↓opLAStore, ↓opALen, ↓opGetS, ↓opGetC, ↓opStrV, ↓opStrC, ↓opCallV, ↓opCallS, ↓opSw, ↓opCopy, ↓opCallT, ↓opBRet, ↓opObjI, ↓opNew, ↓opNewA, ↓opANew, ↓opAAStore, ↓opMNew, ↓opCallI, ↓wp_s, ↓wp_0, ↓popI_c, ↓popL_c, ↓popR_c, ↓pop1_i, ↓pop1_r, ↓ldI_0, ↓ldI_s, ↓ldL_0, ↓ldL_s, ↓ldR_0, ↓ldR_s, ↓stL_0, ↓stL_s, ↓tk_0, ↓tk_s, ↓Kc_s, ↓Kc_n, isS_0, isS_s, asP_c, gi_0, gi_s, noL_0, noL_s, isW_n, isW_i, isW_r, rcv_c, rcvT_c, swK_0, swK_s, catS, or_false, false_or, not_false_eq_true, not_true_eq_false, true_implies, false_implies, and_true, true_and, ↓reduceIte, Nat.reduceAdd, Nat.reduceLT, Nat.reduceLeDiff, Nat.reduceEqDiff, Nat.reduceSub, forall_const, eq_self, and_self, or_true, true_or, lve_i, lve_r, lve_l, lve_0, List.replicate_succ, List.replicate_zero, mX, mX10_whom, hG.o 0 10 rfl rfl, ↓asP_h (hG.p 0 0 1 rfl rfl), ↓asP_h (hG.p 0 1 3 rfl rfl), ↓asP_h (hG.p 0 2 15 rfl rfl), ↓asP_h (hG.p 0 3 23 rfl rfl), ↓asP_h (hG.p 0 4 27 rfl rfl), ↓asP_h (hG.p 0 5 36 rfl rfl), ↓asP_h (hG.p 0 6 41 rfl rfl), ↓asP_h (hG.p 0 7 45 rfl rfl), ↓asP_h (hG.p 0 8 247 rfl rfl), ↓asP_h (hG.p 0 9 252 rfl rfl), ↓asP_h (hG.p 0 10 256 rfl rfl), ↓asP_h (hG.p 0 11 262 rfl rfl), hG.o 262 100 rfl rfl, (hG.o 262 100 rfl rfl).A, hG.l 262 5 rfl rfl, ↓asP_h (hG.p 0 12 263 rfl rfl), hG.o 263 104 rfl rfl, hG.l 263 9 rfl rfl, ↓asP_h (hG.p 0 13 264 rfl rfl), hG.o 264 100 rfl rfl, (hG.o 264 100 rfl rfl).A, hG.l 264 9 rfl rfl, ↓asP_h (hG.p 0 14 265 rfl rfl), hG.o 265 100 rfl rfl, (hG.o 265 100 rfl rfl).A, hG.l 265 9 rfl rfl]
  refine ⟨_, _, _, _, rfl, c_isToldGrudge hG g, ?_⟩
  rw [bInt_f h]
  simp only [↓tX10_whom, ↓opPush, ↓opILoad, ↓opLLoad, ↓opALoad, ↓opIStore, ↓opAStore, ↓opLStore, ↓opIInc, ↓opI1, ↓opII, ↓opID, ↓opLL, ↓opLD, ↓opLI, ↓opI2L, ↓opL2I, ↓opLcmp, ↓opDup, ↓opDupX1, ↓opDup2, ↓opPop, ↓opIf1, ↓opIf2, ↓opGoto, ↓opIRet, ↓opZRet, ↓opLRet, ↓opVRet, ↓opGetI, ↓opGetL, ↓opGetR, ↓opPutI, ↓opPutZ, ↓opPutL, ↓opPutR, ↓opIALoad, ↓opBALoad, ↓opZALoad, ↓opLALoad, ↓opAALoad, ↓opIAStore, ↓opZAStore, ↓opLAStore, ↓opALen, ↓opGetS, ↓opGetC, ↓opStrV, ↓opStrC, ↓opCallV, ↓opCallS, ↓opSw, ↓opCopy, ↓opCallT, ↓opBRet, ↓opObjI, ↓opNew, ↓opNewA, ↓opANew, ↓opAAStore, ↓opMNew, ↓opCallI, ↓wp_s, ↓wp_0, ↓popI_c, ↓popL_c, ↓popR_c, ↓pop1_i, ↓pop1_r, ↓ldI_0, ↓ldI_s, ↓ldL_0, ↓ldL_s, ↓ldR_0, ↓ldR_s, ↓stL_0, ↓stL_s, ↓tk_0, ↓tk_s, ↓Kc_s, ↓Kc_n, isS_0, isS_s, asP_c, gi_0, gi_s, noL_0, noL_s, isW_n, isW_i, isW_r, rcv_c, rcvT_c, swK_0, swK_s, catS, or_false, false_or, not_false_eq_true, not_true_eq_false, true_implies, false_implies, and_true, true_and, ↓reduceIte, Nat.reduceAdd, Nat.reduceLT, Nat.reduceLeDiff, Nat.reduceEqDiff, Nat.reduceSub, forall_const, eq_self, and_self, or_true, true_or]
theorem j_whom (hX : JX G I) (g n : Int32) : JRes E d G I mX10_whom mX11_whom [.int g, .int n] := by
  obtain ⟨hG, hv, -, -, ⟨P, T, hP, A, ptr, dm, hB⟩, ⟨t, hS⟩, -⟩ := id hX
  obtain ⟨I1, z, r1⟩ : ∃ I1, eqZ I I1 ∧ Run E (d + 60) mX10_whom [.ref 0, .int g, .int n] (0, 0) G I (some (.int (aWhom I g n))) G I1 := by
    by_cases c : P = 0
    · have h0 : ¬ oTg I g := fun z => ((tg_eq hP g).mp z).1 c
      refine ⟨I, eqZ.rf, ?_⟩
      have : aWhom I g n = -1 := if_neg (fun z => h0 z.1)
      rw [this]
      exact m_whom0 (d := d + 59) hG h0
    · exact m_whom (E := E) (d := d + 56) hG hP.r1 hP.r0 (by rw [hP.2.1.1]; intro e; exact c ((P0 hP.1.1).mp (by rw [e]; exact le00))) hS.ok g n
  have hP1 : JP I1 P T := hP.fr (fun b k q => z b k (by unfold rdP at q; unfold scr; omega))
  have hS1 : JS I1 t := hS.fr (fun b k q => z b k (by unfold rdS at q; unfold scr; omega))
  have e1 : rv I1 = rv I := rv_congr (Z311 z 328 (by decide))
  have r2 := at_V (I := I1) (by rw [e1]; exact hB.st) (r_whom (E := E) (d := d + 52) (I := I1) (V := getS I 36) hG hP1.1.1 hP1.2.1.2.1 hP1.1.2.1 hP1.2.1.2.2.2 (by rw [hP1.2.2.1.1]; exact f10 hP1.2.2.1.2) hS1.not hP1.2.2.2.2.2 g n)
  refine JRes.q hX z r1 ?_
  have ew : whR I g n = whF (fun w => bInt (wtP I1 (I1 325 0) (wuV I1 P T g.toNatClampNeg w) t)) (whSR I1 P T g.toNatClampNeg n.toNatClampNeg) 30 1 0 (fun _ => 0) := by
    unfold whR
    refine wh_congr (fun w ta => ?_) 30 1 0 _ (fun w => ?_)
    · unfold whS whSR
      funext k
      rw [← it_eq hP1, itr_Z z]
    · rw [← ft_wt hP1 hS1]
      unfold ftB
      rw [z.at' (b := 256) (k := 5) (by unfold scr; omega)]
      exact (bInt_congr (ftP_Z z _ _ _)).symm
  have hc : (I 15 0).toNatClampNeg = P := by rw [hP.2.1.1, nI_clamp (by have := hP.1.1; omega)]
  unfold aWhom
  rw [ew, hc]
  have iff : oWhom I g n ↔ (¬ P = 0 ∧ ¬ g < 0 ∧ ¬ nI T ≤ g) ∧ (¬ n < 1 ∧ ¬ 30 < n) := by
    unfold oWhom
    rw [tg_eq hP]
    constructor
    · rintro ⟨a, b, c⟩
      exact ⟨a, b, Int32.not_lt.mpr c⟩
    · rintro ⟨a, b, c⟩
      exact ⟨a, b, Int32.not_lt.mp c⟩
  by_cases c : oWhom I g n
  · rw [if_pos c]
    rw [if_pos (iff.mp c)] at r2
    exact r2
  · rw [if_neg c]
    rw [if_neg (fun z => c (iff.mpr z))] at r2
    exact r2
theorem c3 (x : Int32) : (¬ x < 0 ∧ ¬ 3 ≤ x) ↔ (¬ x < 0 ∧ ¬ 2 < x) := by
  constructor
  · rintro ⟨a, b⟩
    refine ⟨a, fun z => b ?_⟩
    have h1 := Int32.lt_iff_toInt_lt.mp z
    have e1 : (2 : Int32).toInt = 2 := by decide
    have e2 : (3 : Int32).toInt = 3 := by decide
    exact Int32.le_iff_toInt_le.mpr (by omega)
  · rintro ⟨a, b⟩
    refine ⟨a, fun z => b ?_⟩
    have h1 := Int32.le_iff_toInt_le.mp z
    have e1 : (2 : Int32).toInt = 2 := by decide
    have e2 : (3 : Int32).toInt = 3 := by decide
    exact Int32.lt_iff_toInt_lt.mpr (by omega)
theorem gm_W (I : IM) (p q x y : Int32) : gm1 I p q x y = g1W (wgt I) (I 15 2) (getS I 36) p q x y ∧ gm2 I p q x y = g2W (wgt I) (I 15 2) (getS I 36) p q x y := by
  unfold gm1 gm2 gmR gmV g1W g2W gsW gmW
  rw [ch_W]
  exact ⟨rfl, rfl⟩
theorem are2_eq {P T : Nat} (hP : JP I P T) (p q : Int32) : are2T I p q ↔ are2R P (getS I 36 0 4) p q := by
  unfold are2T are2R isP
  rw [hP.2.1.1]
  exact Iff.rfl
theorem j_game (hX : JX G I) (p q x y w : Int32) : JRes E d G I mX10_game mX11_game [.int p, .int q, .int x, .int y, .int w] := by
  obtain ⟨hG, hv, -, ⟨N, css, hL⟩, ⟨P, T, hP, A, ptr, dm, hB⟩, -, -⟩ := id hX
  obtain ⟨I1, z, r1⟩ := m_game (E := E) (d := d + 53) hG hP.r0 hL.ok p q x y w
  obtain ⟨W, w1, w2, w3⟩ := hL.wh (E := E) hP
  have e1 : rv I1 = rv I := rv_congr (Z311 z 328 (by decide))
  have e3 : I1 325 0 = I 15 2 := by rw [Z311 z 325 (by decide)]; exact hP.2.2.1.1
  have r2 := at_V (I := I1) (by rw [e1]; exact hB.st) (r_game (E := E) (d := d + 48) (I := I1) hG hP.1.1 (by rw [Z311 z 311 (by decide)]; exact hP.2.1.2.1) (by rw [e3]; exact f10 hP.2.2.1.2) (w1 G I1 hG (Z_ls z)) (fun V p q _ _ _ => w2 V _ _) hB.ok p q x y w)
  refine JRes.q hX z r1 ?_
  rw [e3] at r2
  have ea : aGame I p q x y w = if oGameR P (getS I 36 0 4) p q x y w then (if w = 0 then g1W W (I 15 2) (getS I 36) p q x y else g2W W (I 15 2) (getS I 36) p q x y) else -1000000 := by
    have iff : (are2T I p q ∧ isC x ∧ isC y) ↔ (are2R P (getS I 36 0 4) p q ∧ (¬ x < 0 ∧ ¬ 2 < x) ∧ (¬ y < 0 ∧ ¬ 2 < y)) := and_congr (are2_eq hP p q) (and_congr (c3 x) (c3 y))
    unfold aGame
    by_cases c : are2R P (getS I 36 0 4) p q ∧ (¬ x < 0 ∧ ¬ 2 < x) ∧ (¬ y < 0 ∧ ¬ 2 < y)
    · rw [if_pos (iff.mpr c)]
      obtain ⟨a, ha, rfl⟩ := pn_lt c.1.1.1
      obtain ⟨b, hb, rfl⟩ := pn_lt c.1.1.2.1
      obtain ⟨g1, g2⟩ := gm_W I (nI a) (nI b) x y
      obtain ⟨k1, k2⟩ := gs_agree (w3 _ (r9999 hB.r6)) (V := getS I 36) rfl ha hb (I 15 2) x y
      rw [g1, g2, ← k1, ← k2]
      by_cases cw : ¬ w < 0 ∧ ¬ 1 < w
      · have og : oGameR P (getS I 36 0 4) (nI a) (nI b) x y w := ⟨c.1, c.2.1, c.2.2, cw⟩
        refine Eq.trans ?_ (if_pos og).symm
        rcases b01 cw with rfl | rfl
        · rw [if_pos rfl, if_pos rfl]
        · rw [if_neg (by decide), if_pos rfl, if_neg (by decide)]
      · rw [if_neg (fun z : w = 0 => cw (by rw [z]; decide)), if_neg (fun z : w = 1 => cw (by rw [z]; decide))]
        exact (if_neg (fun z => cw z.2.2.2)).symm
    · rw [if_neg (fun z => c (iff.mp z)), if_neg (fun z => c ⟨z.1, z.2.1, z.2.2.1⟩)]
  rw [ea]
  exact r2
theorem j_rests (hX : JX G I) (p q i : Int32) : JRes E d G I mX10_rests mX11_rests [.int p, .int q, .int i] := by
  obtain ⟨hG, hv, -, ⟨N, css, hL⟩, ⟨P, T, hP, A, ptr, dm, hB⟩, -, -⟩ := id hX
  obtain ⟨I1, z, r1⟩ := m_rests (E := E) (d := d + 53) hG hP.r0 hL.ok p q i
  obtain ⟨W, w1, w2, w3⟩ := hL.wh (E := E) hP
  have e1 : rv I1 = rv I := rv_congr (Z311 z 328 (by decide))
  have e3 : I1 325 0 = I 15 2 := by rw [Z311 z 325 (by decide)]; exact hP.2.2.1.1
  have r2 := at_V (I := I1) (by rw [e1]; exact hB.st) (r_rests (E := E) (d := d + 47) (I := I1) hG hP.1.1 (by rw [Z311 z 311 (by decide)]; exact hP.2.1.2.1) (by rw [e3]; exact f10 hP.2.2.1.2) (w1 G I1 hG (Z_ls z)) (fun V p q _ _ _ => w2 V _ _) hB.ok p q i)
  refine JRes.q hX z r1 ?_
  rw [e3] at r2
  have ea : aRests I p q i = if are2R P (getS I 36 0 4) p q then cnF (fun m => bInt (rsW W (I 15 2) (getS I 36) p q (m / 3) (m % 3))) (fun m => 10 * nI (m / 3) + nI (m % 3)) i 9 0 0 else -1 := by
    unfold aRests
    by_cases c : are2R P (getS I 36 0 4) p q
    · rw [if_pos c, if_pos ((are2_eq hP p q).mpr c)]
      obtain ⟨a, ha, rfl⟩ := pn_lt c.1.1
      obtain ⟨b, hb, rfl⟩ := pn_lt c.1.2.1
      refine cn_congr 9 0 0 (fun m _ _ => bInt_congr ?_)
      unfold rsM rsW
      refine forall_congr' (fun k => forall_congr' (fun hk => ?_))
      have g := fun x y => (gm_W I (nI a) (nI b) x y)
      have kk := fun x y => gs_agree (w3 _ (r9999 hB.r6)) (V := getS I 36) rfl ha hb (I 15 2) x y
      rw [(g _ _).1, (g _ _).1, (g _ _).2, (g _ _).2, ← (kk _ _).1, ← (kk _ _).1, ← (kk _ _).2, ← (kk _ _).2]
    · rw [if_neg c, if_neg (fun z => c ((are2_eq hP p q).mp z))]
  rw [ea]
  exact r2
theorem j_most (hX : JX G I) (w : Int32) : JRes E d G I mX10_most mX11_most [.int w] := by
  obtain ⟨hG, hv, -, -, ⟨P, T, hP, A, ptr, dm, hB⟩, -, -⟩ := id hX
  have r1 := m_most (E := E) (d := d + 55) hG hP.r0 (I := I) w
  obtain ⟨J, j1, j2⟩ := r_most (E := E) (d := d + 53) (I := I) hG hP.1.1 hP.2.1.2.1 (by rw [hP.2.2.1.1]; exact f10 hP.2.2.1.2) hB.okR w
  rw [rp_back j1] at j2
  refine JRes.q hX eqZ.rf r1 ⟨J, j1, ?_⟩
  have hc : (I 15 0).toNatClampNeg = P := by rw [hP.2.1.1, nI_clamp (by have := hP.1.1; omega)]
  have ea : aMost I w = mostV P (I 325 0) (rv I) (fun p => I 326 (2 * p + 1)) w := by
    have hs := hB.st
    unfold aMost mostV
    rw [hc, hP.2.1.1, hP.2.2.1.1, mb_eqS hs, mb_eqS hs, so_eqS hs, hu_eqS hs, hl_congr hs, hb_eqS hs, hb_eqS hs, wa_congr hs, tr_eqS hs, un_eqS hs, hs 0 4 in04]
    by_cases c : P = 0
    · rw [if_pos c, if_pos ((P0 hP.1.1).mpr c)]
    · have el : fold1 (liS (fun p => I 326 (2 * p + 1))) (P - 1) 0 = fold1 (liS (I 17)) (P - 1) 0 := li_cong (n := P - 1) (by have := hP.1.1; omega) (fun k hk => (hP.2.2.2.1 k (by omega)).2.1) (P - 1) (Nat.le_refl _)
      rw [if_neg c, if_neg (fun z => c ((P0 hP.1.1).mp z)), el]
      rfl
  rw [ea]
  exact j2
end
