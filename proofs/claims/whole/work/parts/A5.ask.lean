/-! ===== class and reference: what is asked is answered alike ===== -/
def JRes (E : EV) (d : Nat) (G : GD) (I : IM) (Mc Mr : MI) (av : List Value) : Prop := ∃ (r : Int32) (G1 : GD) (I1 : IM) (G2 : GD) (I2 : IM), Run E (d + 60) Mc (.ref 0 :: av) (0, 0) G I (some (.int r)) G1 I1 ∧ GTs G1 ∧ Run E (d + 60) Mr (.ref 311 :: av) (0, 0) G1 I1 (some (.int r)) G2 I2 ∧ gN G2 = gN G ∧ JX G2 I2
theorem P0 {P : Nat} (h : P ≤ 5) : nI P ≤ 0 ↔ P = 0 := by
  have : ∀ P, P ≤ 5 → (nI P ≤ 0 ↔ P = 0) := by decide
  exact this P h
theorem hl_congr {V W : SV} (h : eqS V W) (f : Int32) : hlF (V 3) (V 4) (V 1) (V 0 4) f = hlF (W 3) (W 4) (W 1) (W 0 4) f := foldN_congr fun k x hk => by
  unfold hlS
  rw [eqS_row h (r := 3) (by decide) (by decide) hk, eqS_row h (r := 4) (by decide) (by decide) hk, eqS_row h (r := 1) (by decide) (by decide) hk, h 0 4 in04]
theorem wa_congr {V W : SV} (h : eqS V W) (m : Int32) : waF (V 3) m = waF (W 3) m := foldN_congr fun k x hk => by
  unfold waS
  rw [eqS_row h (r := 3) (by decide) (by decide) hk]
theorem hb_eqS {V W : SV} (h : eqS V W) (f : Int32) : hbF (V 3) (V 4) f = hbF (W 3) (W 4) f := hb_congr (fun k hk => eqS_row h (by decide) (by decide) hk) (fun k hk => eqS_row h (by decide) (by decide) hk)
theorem brd_eqS {V W : SV} (h : eqS V W) (p : Int32) : brd V p = brd W p := by
  unfold brd
  rw [eqS_hw h (r := 2) (by decide) (by decide), hl_congr h, wa_congr h]
theorem mb_eqS {V W : SV} (h : eqS V W) (s : Int32) (n : Nat) : mbF V s n = mbF W s n := by
  unfold mbF
  rw [foldN_congr (f := mbS V s) (g := mbS W s) fun k x hk => by
    unfold mbS
    rw [h 0 4 in04, brd_eqS h]]
theorem fold1_congr {α : Type} {f g : Nat → α → α} : ∀ {n : Nat} {a : α}, (∀ k x, 1 ≤ k → k ≤ n → f k x = g k x) → fold1 f n a = fold1 g n a
  | 0, _, _ => rfl
  | n + 1, a, h => by
    rw [fold1_s, fold1_s, fold1_congr (n := n) (fun k x h1 h2 => h k x h1 (by omega)), h (n + 1) _ (by omega) (Nat.le_refl _)]
theorem so_eqS {V W : SV} (h : eqS V W) (n : Nat) : fold1 (soS V) n 0 = fold1 (soS W) n 0 := fold1_congr fun k x _ _ => by
  unfold soS
  rw [eqS_hw h (r := 1) (by decide) (by decide), eqS_hw h (r := 1) (by decide) (by decide)]
theorem hu_eqS {V W : SV} (h : eqS V W) : huF (V 3) = huF (W 3) := by
  unfold huF
  rw [foldN_congr (f := huS (V 3)) (g := huS (W 3)) fun k x hk => by
    unfold huS
    rw [eqS_row h (r := 3) (by decide) (by decide) hk]]
theorem un_eqS {V W : SV} (h : eqS V W) (f : Int32) : unF (V 3) (V 4) (V 1) (V 2) (V 0 4) f = unF (W 3) (W 4) (W 1) (W 2) (W 0 4) f := foldN_congr fun k x hk => by
  unfold unS
  rw [eqS_row h (r := 3) (by decide) (by decide) hk, eqS_row h (r := 4) (by decide) (by decide) hk, eqS_row h (r := 1) (by decide) (by decide) hk, eqS_row h (r := 2) (by decide) (by decide) hk, h 0 4 in04]
theorem ty_eqS {V W : SV} (h : eqS V W) (p q : Int32) : tyP V p q ↔ tyP W p q := by
  unfold tyP
  rw [eqS_hw h (r := 1) (by decide) (by decide), eqS_hw h (r := 2) (by decide) (by decide), eqS_hw h (r := 1) (by decide) (by decide), eqS_hw h (r := 2) (by decide) (by decide)]
theorem tr_eqS {V W : SV} (h : eqS V W) (n m : Nat) : foldN (tr2 V n) m 0 = foldN (tr2 W n) m 0 := foldN_congr fun k x hk => by
  unfold tr2
  exact foldN_congr fun j y hj => by
    unfold tr1
    by_cases c : tyP V (nI k) (nI (k + 1 + j))
    · rw [if_pos c, if_pos ((ty_eqS h _ _).mp c)]
    · rw [if_neg c, if_neg (fun z => c ((ty_eqS h _ _).mpr z))]
theorem li_stp {a b : Nat → Int32} {k j : Nat} (hj : j < 100) (h1 : a k = b k) (h2 : a j = b j) : liS a k (nI j) = liS b k (nI j) := by
  have e : (nI j).toNatClampNeg = j := nI_clamp (Nat.lt_trans hj (by decide))
  unfold liS
  rw [e, h1, h2]
theorem li_cong {a b : Nat → Int32} {n : Nat} (hn : n ≤ 5) (h : ∀ k, k ≤ n → a k = b k) : ∀ m, m ≤ n → fold1 (liS a) m 0 = fold1 (liS b) m 0 := by
  intro m
  induction m with
  | zero => intro _; rw [fold1_0, fold1_0]
  | succ m ih =>
    intro hm
    rw [fold1_s, fold1_s, ih (by omega)]
    obtain ⟨j, hj, e⟩ := liS_rng b m m (Nat.le_refl _)
    rw [e]
    exact li_stp (by omega) (h (m + 1) hm) (h j (by omega))
section
variable {E : EV} {d : Nat} {G : GD} {I : IM}
theorem at_V {D : Nat} {M : MI} {av : List Value} {r : Option Value} {V : SV} (hV : eqS (rv I) V) (h : ∃ J, eqR I J ∧ Run E D M av (0, 0) G (rp I V) r G (rp J V)) : ∃ J, eqR I J ∧ Run E D M av (0, 0) G I r G J := by
  obtain ⟨J, h1, h2⟩ := h
  have e1 : rp I V = I := by rw [rp_congr hV.symm, rp_rv]
  have e2 : rp J V = J := by rw [rp_congr hV.symm, rp_back h1]
  rw [e1, e2] at h2
  exact ⟨J, h1, h2⟩
theorem JRes.q {Mc Mr : MI} {av : List Value} {r : Int32} {I1 : IM} (hX : JX G I) (z : eqZ I I1) (r1 : Run E (d + 60) Mc (.ref 0 :: av) (0, 0) G I (some (.int r)) G I1) (r2 : ∃ J, eqR I1 J ∧ Run E (d + 60) Mr (.ref 311 :: av) (0, 0) G I1 (some (.int r)) G J) : JRes E d G I Mc Mr av := by
  obtain ⟨J, j1, j2⟩ := r2
  exact ⟨r, G, I1, G, J, r1, hX.1, j2, rfl, hX.1, hX.2.1, (hX.2.2.Z z).R j1⟩
theorem JRes.q0 {Mc Mr : MI} {av : List Value} {r s : Int32} (hX : JX G I) (r1 : Run E (d + 60) Mc (.ref 0 :: av) (0, 0) G I (some (.int r)) G I) (r2 : Run E (d + 60) Mr (.ref 311 :: av) (0, 0) G I (some (.int s)) G I) (e : s = r) : JRes E d G I Mc Mr av := by
  subst e
  exact ⟨s, G, I, G, I, r1, hX.1, r2, rfl, hX⟩
theorem Z311 {J : IM} (z : eqZ I J) : ∀ b, 311 ≤ b → J b = I b := fun b hb => z.row (scr_n (by omega))
theorem j_rule (hX : JX G I) (w : Int32) : JRes E d G I mX10_rule mX11_rule [.int w] := by
  obtain ⟨hG, hv, -, -, ⟨P, T, hP, A, ptr, dm, hB⟩, -, -⟩ := id hX
  refine JRes.q0 hX (m_rule (d := d + 59) hG w) (r_rule (d := d + 59) hG hP.1.1 hP.2.1.2.1 w) ?_
  unfold aRule
  rw [hP.2.1.1, hP.2.2.1.1, show I 328 49 = rv I 0 5 from rfl, hB.st 0 5 in05, show getS I 36 0 5 = I 36 5 from rfl]
  by_cases c : P = 0
  · rw [if_pos c, if_pos ((P0 hP.1.1).mpr c)]
  · rw [if_neg c, if_neg (fun z => c ((P0 hP.1.1).mp z))]
theorem j_grudge (hX : JX G I) (g w : Int32) : JRes E d G I mX10_grudge mX11_grudge [.int g, .int w] := by
  obtain ⟨hG, hv, -, -, ⟨P, T, hP, A, ptr, dm, hB⟩, -, -⟩ := id hX
  refine JRes.q0 hX (m_grudge (d := d + 59) hG g w) (r_grudge (d := d + 57) hG hP.1.1 hP.2.1.2.1 g w) ?_
  unfold aGrudge
  by_cases c : isG I g
  · obtain ⟨k, hk, ek⟩ : ∃ k, k < 12 ∧ g = nI k := by
      obtain ⟨k, h1, h2, e⟩ := in_i (x := g) (a := 0) (b := 11) (by decide) ⟨c.1, fun z => c.2.1 (Int32.not_lt.mp (fun z2 => by
        have h1 := Int32.lt_iff_toInt_lt.mp z
        have h2 := Int32.lt_iff_toInt_lt.mp z2
        have e1 : (nI 11).toInt = 11 := by decide
        have e2 : (12 : Int32).toInt = 12 := by decide
        omega))⟩ (by decide)
      exact ⟨k, by omega, e⟩
    rw [if_pos c]
    subst ek
    have ck : (nI k).toNatClampNeg = k := nI_clamp (by omega)
    have hc3 := c.2.2
    rw [ck] at hc3
    have row : ∀ r, 1 ≤ r → r ≤ 4 → rv I r k = I (36 + r) k := fun r h1 h4 => hB.st r k (inSt_r h1 h4 hk)
    have hP0 : ¬ P = 0 := fun z => hc3 (by rw [hB.none z k hk]; exact le00)
    have pl : isPl (rv I) (nI k) := ⟨c.1, c.2.1, by rw [ck, row 3 (by decide) (by decide)]; exact hc3⟩
    by_cases cw : ¬ w < 0 ∧ ¬ 3 < w
    · rw [if_pos ⟨hP0, pl, cw⟩]
      obtain ⟨m, -, hm, em⟩ := in_i (x := w) (a := 0) (b := 3) (by decide) cw (by decide)
      subst em
      rw [nI_clamp (show m < 2 ^ 31 by omega), ck, row (m + 1) (by omega) (by omega)]
      rcases (show m = 0 ∨ m = 1 ∨ m = 2 ∨ m = 3 by omega) with rfl | rfl | rfl | rfl <;> rfl
    · rw [if_neg (fun z => cw z.2.2), if_neg (fun z => cw (by rw [z]; decide)), if_neg (fun z => cw (by rw [z]; decide)), if_neg (fun z => cw (by rw [z]; decide)), if_neg (fun z => cw (by rw [z]; decide))]
  · rw [if_neg c, if_neg]
    rintro ⟨-, pl, -⟩
    obtain ⟨k, hk, ek⟩ := pl_ix pl
    subst ek
    refine c ⟨pl.1, pl.2.1, ?_⟩
    have := pl.2.2
    rw [nI_clamp (by omega), hB.st 3 k (inSt_r (by decide) (by decide) hk)] at this
    rw [nI_clamp (by omega)]
    exact this
theorem j_status (hX : JX G I) (w : Int32) : JRes E d G I mX10_status mX11_status [.int w] := by
  obtain ⟨hG, hv, -, -, -, -, hO⟩ := id hX
  refine JRes.q0 hX (m_status (d := d + 60) hG w) (r_status (d := d + 59) hG w) ?_
  unfold aStatus
  by_cases c : ¬ w < 0 ∧ ¬ 4 < w
  · obtain ⟨k, -, hk, e⟩ := in_i (x := w) (a := 0) (b := 4) (by decide) c (by decide)
    subst e
    have h5 : nI k < 5 := nI_lt (b := 5) (by omega) (by decide)
    rw [if_pos c, if_neg (by rintro (z | z); exact c.1 z; exact z h5), nI_clamp (by omega), hO.1 k (by omega)]
  · rw [if_neg c, if_pos]
    by_cases z : w < 0
    · exact Or.inl z
    · refine Or.inr (fun z2 => c ⟨z, fun z3 => ?_⟩)
      have h1 := Int32.lt_iff_toInt_lt.mp z2
      have h2 := Int32.lt_iff_toInt_lt.mp z3
      have e1 : (5 : Int32).toInt = 5 := by decide
      have e2 : (4 : Int32).toInt = 4 := by decide
      omega
theorem min60 {D : Nat} (h : D ≤ 999) : minI 60 (nI D) = nI (min 60 D) := by
  apply toI_inj
  rw [minI_i, clamp_int (nI_pos (by omega)), clamp_int (nI_pos (by omega)), nI_clamp (by omega), nI_clamp (by omega)]
  have : (60 : Int32).toInt = 60 := by decide
  omega
theorem j_log (hX : JX G I) (i w : Int32) : JRes E d G I mX10_log mX11_log [.int i, .int w] := by
  obtain ⟨hG, hv, -, -, ⟨P, T, hP, A, ptr, dm, hB⟩, -, -⟩ := id hX
  obtain ⟨⟨a1, a2, a3, a4, a5⟩, ⟨b1, b2, b3, b4, b5, b6⟩, -⟩ := id hB
  refine JRes.q0 hX (m_log (d := d + 58) hG hB.r6 i w) (r_log (d := d + 59) hG (L := min 60 (dm A)) (by omega) b5 i w) ?_
  have h6 : I 36 6 = nI (dm A) := b3
  unfold aLog
  rw [h6, min60 b4, nI_clamp (by omega)]
  by_cases c : ¬ i < 0 ∧ ¬ nI (min 60 (dm A)) ≤ i
  · obtain ⟨k, hk, e⟩ := pn_lt c
    subst e
    rw [if_neg (show ¬ (nI k < 0 ∨ ¬ nI k < nI (min 60 (dm A))) from by rintro (z | z); exact c.1 z; exact c.2 (Int32.not_lt.mp z)), nI_clamp (by omega)]
    by_cases cw : ¬ w < 0 ∧ ¬ 2 < w
    · obtain ⟨m, -, hm, em⟩ := in_i (x := w) (a := 0) (b := 2) (by decide) cw (by decide)
      subst em
      rw [if_pos ⟨c, cw⟩, nI_clamp (by omega), b6 _ m (by omega) (by omega), show dm A - min 60 (dm A) + (min 60 (dm A) - 1 - k) = dm A - 1 - k by omega]
      rcases (show m = 0 ∨ m = 1 ∨ m = 2 by omega) with rfl | rfl | rfl <;> rfl
    · rw [if_neg (fun z => cw z.2), if_neg (fun z => cw (by rw [z]; decide)), if_neg (fun z => cw (by rw [z]; decide)), if_neg (fun z => cw (by rw [z]; decide))]
  · rw [if_neg (fun z => c z.1), if_pos]
    by_cases z : i < 0
    · exact Or.inl z
    · exact Or.inr (fun z2 => c ⟨z, Int32.not_le.mpr z2⟩)
theorem j_count (hX : JX G I) (w : Int32) : JRes E d G I mX10_count mX11_count [.int w] := by
  obtain ⟨hG, hv, ⟨L, hT⟩, ⟨N, css, hL⟩, ⟨P, T, hP, A, ptr, dm, hB⟩, ⟨t, hS⟩, hO⟩ := id hX
  obtain ⟨⟨a1, a2, a3, a4, a5⟩, ⟨b1, b2, b3, b4, b5, b6⟩, -⟩ := id hB
  refine JRes.q0 hX (m_count (d := d + 56) hG w) (r_count (d := d + 57) hG hB.okR w) ?_
  have h6 : I 36 6 = nI (dm A) := b3
  have e50 : I 328 50 = I 36 6 := hB.st 0 6 in06
  have ehb : bcI (hbF (rv I 3) (rv I 4) 0) = bcI (hbF (I 39) (I 40) 0) := congrArg bcI (hb_eqS hB.st 0)
  unfold aCount
  rw [hP.2.1.1, hP.2.1.2.1, hP.2.1.2.2.1, hP.2.1.2.2.2, hL.2.1, hL.2.2.1, hT.2.1, hT.2.2.1, hL.2.2.2.1, e50, ehb, hO.2.1, hS.2.1, hS.2.2.1, b5, h6, min60 b4, a4, a5]
set_option maxRecDepth 100000 in
set_option maxHeartbeats 4000000 in
theorem r_weighs (hG : GTs G) {P : Nat} (hP5 : P ≤ 5) (hP : I 311 25 = nI P) {W : SV → Int32 → Int32 → Int32} (hW : WH E G I P W) {V : SV} (hV : SVok P V) (p q : Int32) : ∃ J, eqR I J ∧ Run E (d + 9) mX11_weighs [.ref 311, .int p, .int q] (0, 0) G (rp I V) (some (.int (if (¬ p < 0 ∧ ¬ nI P ≤ p) ∧ (¬ q < 0 ∧ ¬ nI P ≤ q) ∧ ¬ p = q then W V p q else -1))) G (rp J V) := by
  have ip : ∀ x, Run E (d + 8) mX11_isPerson [.ref 311, .int x] (0, 0) G (rp I V) (some (.int (bInt (¬ x < 0 ∧ ¬ nI P ≤ x)))) G (rp I V) := fun x => r_isPerson (d := d + 7) hG hP5 (by rw [rp_ne (by decide)]; exact hP) x
  by_cases c : (¬ p < 0 ∧ ¬ nI P ≤ p) ∧ (¬ q < 0 ∧ ¬ nI P ≤ q) ∧ ¬ p = q
  · obtain ⟨c1, c2, c3⟩ := id c
    obtain ⟨a, ha, rfl⟩ := pn_lt c1
    obtain ⟨b, hb, rfl⟩ := pn_lt c2
    obtain ⟨J, j1, -, -, j4⟩ := hW d I V a b eqR.rf hV ha hb
    refine ⟨J, j1, ?_⟩
    rw [if_pos c]
    refine Ct.run okX11_weighs TX11_weighs [] 60 rfl rfl ?_
    simp only [↓tX11_weighs, ↓opPush, ↓opILoad, ↓opLLoad, ↓opALoad, ↓opIStore, ↓opAStore, ↓opLStore, ↓opIInc, ↓opI1, ↓opII, ↓opID, ↓opLL, ↓opLD, ↓opLI, ↓opI2L, ↓opL2I, ↓opLcmp, ↓opDup, ↓opDupX1, ↓opDup2, ↓opPop, ↓opIf1, ↓opIf2, ↓opGoto, ↓opIRet, ↓opZRet, ↓opLRet, ↓opVRet, ↓opGetI, ↓opGetL, ↓opGetR, ↓opPutI, ↓opPutZ, ↓opPutL, ↓opPutR, ↓opIALoad, ↓opBALoad, ↓opZALoad, ↓opLALoad, ↓opAALoad, ↓opIAStore, ↓opZAStore, ↓opLAStore, ↓opALen, ↓opGetS, ↓opGetC, ↓opStrV, ↓opStrC, ↓opCallV, ↓opCallS, ↓opSw, ↓opCopy, ↓opCallT, ↓opBRet, ↓opObjI, ↓opNew, ↓opNewA, ↓opANew, ↓opAAStore, ↓opMNew, ↓opCallI, ↓wp_s, ↓wp_0, ↓popI_c, ↓popL_c, ↓popR_c, ↓pop1_i, ↓pop1_r, ↓ldI_0, ↓ldI_s, ↓ldL_0, ↓ldL_s, ↓ldR_0, ↓ldR_s, ↓stL_0, ↓stL_s, ↓tk_0, ↓tk_s, ↓Kc_s, ↓Kc_n, isS_0, isS_s, asP_c, gi_0, gi_s, noL_0, noL_s, isW_n, isW_i, isW_r, rcv_c, rcvT_c, swK_0, swK_s, catS, or_false, false_or, not_false_eq_true, not_true_eq_false, true_implies, false_implies, and_true, true_and, ↓reduceIte, Nat.reduceAdd, Nat.reduceLT, Nat.reduceLeDiff, Nat.reduceEqDiff, Nat.reduceSub, forall_const, eq_self, and_self, or_true, true_or, lve_i, lve_r, lve_l, lve_0, List.replicate_succ, List.replicate_zero, mX, mX11_weighs, hG.fo311, ↓asP_h hG.fp311_1, hG.fo312, hG.fa312, hG.fl312, ↓asP_h hG.fp311_6, hG.fo313, hG.fa313, hG.fl313, ↓asP_h hG.fp311_7, hG.fo314, hG.fa314, hG.fl314, ↓asP_h hG.fp311_8, hG.fo315, hG.fa315, hG.fl315, ↓asP_h hG.fp311_9, hG.fo316, hG.fa316, hG.fl316, ↓asP_h hG.fp311_10, hG.fo317, hG.fa317, hG.fl317, ↓asP_h hG.fp311_11, hG.fo318, hG.fa318, hG.fl318, ↓asP_h hG.fp311_12, hG.fo319, hG.fa319, hG.fl319, ↓asP_h hG.fp311_15, hG.fo320, hG.fa320, hG.fl320, ↓asP_h hG.fp311_16, hG.fo321, hG.fa321, hG.fl321, ↓asP_h hG.fp311_17, hG.fo322, hG.fa322, hG.fl322, ↓asP_h hG.fp311_18, hG.fo323, hG.fa323, hG.fl323, ↓asP_h hG.fp311_19, hG.fo324, hG.fa324, hG.fl324, ↓asP_h hG.fp311_22, hG.fo325, hG.fa325, hG.fl325, ↓asP_h hG.fp311_23, hG.fo326, hG.fa326, hG.fl326, ↓asP_h hG.fp311_24, hG.fo327, hG.fa327, hG.fl327, ↓asP_h hG.fp311_27, hG.fo328, hG.fa328, hG.fl328, ↓asP_h hG.fp311_28, hG.fo329, hG.fa329, hG.fl329, ↓asP_h hG.fp311_31, hG.fo330, hG.fa330, hG.fl330, ↓asP_h hG.fp311_34, hG.fo331, hG.fa331, hG.fl331, ↓asP_h hG.fp311_37, hG.fo332, hG.fa332, hG.fl332, ↓asP_h hG.fp311_38, hG.fo333, hG.fa333, hG.fl333, ↓asP_h hG.fp311_39, hG.fo334, hG.fl334, ↓asP_h hG.fp311_41, hG.fo335, hG.fa335, hG.fl335, ↓asP_h hG.fp311_42, hG.fo336, hG.fa336, hG.fl336, ↓asP_h hG.fp311_43, hG.fo337, hG.fa337, hG.fl337]
    refine ⟨_, _, _, _, rfl, ip _, ?_⟩
    rw [bInt_t c1]
    simp only [↓tX11_weighs, ↓opPush, ↓opILoad, ↓opLLoad, ↓opALoad, ↓opIStore, ↓opAStore, ↓opLStore, ↓opIInc, ↓opI1, ↓opII, ↓opID, ↓opLL, ↓opLD, ↓opLI, ↓opI2L, ↓opL2I, ↓opLcmp, ↓opDup, ↓opDupX1, ↓opDup2, ↓opPop, ↓opIf1, ↓opIf2, ↓opGoto, ↓opIRet, ↓opZRet, ↓opLRet, ↓opVRet, ↓opGetI, ↓opGetL, ↓opGetR, ↓opPutI, ↓opPutZ, ↓opPutL, ↓opPutR, ↓opIALoad, ↓opBALoad, ↓opZALoad, ↓opLALoad, ↓opAALoad, ↓opIAStore, ↓opZAStore, ↓opLAStore, ↓opALen, ↓opGetS, ↓opGetC, ↓opStrV, ↓opStrC, ↓opCallV, ↓opCallS, ↓opSw, ↓opCopy, ↓opCallT, ↓opBRet, ↓opObjI, ↓opNew, ↓opNewA, ↓opANew, ↓opAAStore, ↓opMNew, ↓opCallI, ↓wp_s, ↓wp_0, ↓popI_c, ↓popL_c, ↓popR_c, ↓pop1_i, ↓pop1_r, ↓ldI_0, ↓ldI_s, ↓ldL_0, ↓ldL_s, ↓ldR_0, ↓ldR_s, ↓stL_0, ↓stL_s, ↓tk_0, ↓tk_s, ↓Kc_s, ↓Kc_n, isS_0, isS_s, asP_c, gi_0, gi_s, noL_0, noL_s, isW_n, isW_i, isW_r, rcv_c, rcvT_c, swK_0, swK_s, catS, or_false, false_or, not_false_eq_true, not_true_eq_false, true_implies, false_implies, and_true, true_and, ↓reduceIte, Nat.reduceAdd, Nat.reduceLT, Nat.reduceLeDiff, Nat.reduceEqDiff, Nat.reduceSub, forall_const, eq_self, and_self, or_true, true_or, ne10, hG.fo311, ↓asP_h hG.fp311_1, hG.fo312, hG.fa312, hG.fl312, ↓asP_h hG.fp311_6, hG.fo313, hG.fa313, hG.fl313, ↓asP_h hG.fp311_7, hG.fo314, hG.fa314, hG.fl314, ↓asP_h hG.fp311_8, hG.fo315, hG.fa315, hG.fl315, ↓asP_h hG.fp311_9, hG.fo316, hG.fa316, hG.fl316, ↓asP_h hG.fp311_10, hG.fo317, hG.fa317, hG.fl317, ↓asP_h hG.fp311_11, hG.fo318, hG.fa318, hG.fl318, ↓asP_h hG.fp311_12, hG.fo319, hG.fa319, hG.fl319, ↓asP_h hG.fp311_15, hG.fo320, hG.fa320, hG.fl320, ↓asP_h hG.fp311_16, hG.fo321, hG.fa321, hG.fl321, ↓asP_h hG.fp311_17, hG.fo322, hG.fa322, hG.fl322, ↓asP_h hG.fp311_18, hG.fo323, hG.fa323, hG.fl323, ↓asP_h hG.fp311_19, hG.fo324, hG.fa324, hG.fl324, ↓asP_h hG.fp311_22, hG.fo325, hG.fa325, hG.fl325, ↓asP_h hG.fp311_23, hG.fo326, hG.fa326, hG.fl326, ↓asP_h hG.fp311_24, hG.fo327, hG.fa327, hG.fl327, ↓asP_h hG.fp311_27, hG.fo328, hG.fa328, hG.fl328, ↓asP_h hG.fp311_28, hG.fo329, hG.fa329, hG.fl329, ↓asP_h hG.fp311_31, hG.fo330, hG.fa330, hG.fl330, ↓asP_h hG.fp311_34, hG.fo331, hG.fa331, hG.fl331, ↓asP_h hG.fp311_37, hG.fo332, hG.fa332, hG.fl332, ↓asP_h hG.fp311_38, hG.fo333, hG.fa333, hG.fl333, ↓asP_h hG.fp311_39, hG.fo334, hG.fl334, ↓asP_h hG.fp311_41, hG.fo335, hG.fa335, hG.fl335, ↓asP_h hG.fp311_42, hG.fo336, hG.fa336, hG.fl336, ↓asP_h hG.fp311_43, hG.fo337, hG.fa337, hG.fl337]
    refine ⟨_, _, _, _, rfl, ip _, ?_⟩
    rw [bInt_t c2]
    simp only [↓tX11_weighs, ↓opPush, ↓opILoad, ↓opLLoad, ↓opALoad, ↓opIStore, ↓opAStore, ↓opLStore, ↓opIInc, ↓opI1, ↓opII, ↓opID, ↓opLL, ↓opLD, ↓opLI, ↓opI2L, ↓opL2I, ↓opLcmp, ↓opDup, ↓opDupX1, ↓opDup2, ↓opPop, ↓opIf1, ↓opIf2, ↓opGoto, ↓opIRet, ↓opZRet, ↓opLRet, ↓opVRet, ↓opGetI, ↓opGetL, ↓opGetR, ↓opPutI, ↓opPutZ, ↓opPutL, ↓opPutR, ↓opIALoad, ↓opBALoad, ↓opZALoad, ↓opLALoad, ↓opAALoad, ↓opIAStore, ↓opZAStore, ↓opLAStore, ↓opALen, ↓opGetS, ↓opGetC, ↓opStrV, ↓opStrC, ↓opCallV, ↓opCallS, ↓opSw, ↓opCopy, ↓opCallT, ↓opBRet, ↓opObjI, ↓opNew, ↓opNewA, ↓opANew, ↓opAAStore, ↓opMNew, ↓opCallI, ↓wp_s, ↓wp_0, ↓popI_c, ↓popL_c, ↓popR_c, ↓pop1_i, ↓pop1_r, ↓ldI_0, ↓ldI_s, ↓ldL_0, ↓ldL_s, ↓ldR_0, ↓ldR_s, ↓stL_0, ↓stL_s, ↓tk_0, ↓tk_s, ↓Kc_s, ↓Kc_n, isS_0, isS_s, asP_c, gi_0, gi_s, noL_0, noL_s, isW_n, isW_i, isW_r, rcv_c, rcvT_c, swK_0, swK_s, catS, or_false, false_or, not_false_eq_true, not_true_eq_false, true_implies, false_implies, and_true, true_and, ↓reduceIte, Nat.reduceAdd, Nat.reduceLT, Nat.reduceLeDiff, Nat.reduceEqDiff, Nat.reduceSub, forall_const, eq_self, and_self, or_true, true_or, ne10, c3, hG.fo311, ↓asP_h hG.fp311_1, hG.fo312, hG.fa312, hG.fl312, ↓asP_h hG.fp311_6, hG.fo313, hG.fa313, hG.fl313, ↓asP_h hG.fp311_7, hG.fo314, hG.fa314, hG.fl314, ↓asP_h hG.fp311_8, hG.fo315, hG.fa315, hG.fl315, ↓asP_h hG.fp311_9, hG.fo316, hG.fa316, hG.fl316, ↓asP_h hG.fp311_10, hG.fo317, hG.fa317, hG.fl317, ↓asP_h hG.fp311_11, hG.fo318, hG.fa318, hG.fl318, ↓asP_h hG.fp311_12, hG.fo319, hG.fa319, hG.fl319, ↓asP_h hG.fp311_15, hG.fo320, hG.fa320, hG.fl320, ↓asP_h hG.fp311_16, hG.fo321, hG.fa321, hG.fl321, ↓asP_h hG.fp311_17, hG.fo322, hG.fa322, hG.fl322, ↓asP_h hG.fp311_18, hG.fo323, hG.fa323, hG.fl323, ↓asP_h hG.fp311_19, hG.fo324, hG.fa324, hG.fl324, ↓asP_h hG.fp311_22, hG.fo325, hG.fa325, hG.fl325, ↓asP_h hG.fp311_23, hG.fo326, hG.fa326, hG.fl326, ↓asP_h hG.fp311_24, hG.fo327, hG.fa327, hG.fl327, ↓asP_h hG.fp311_27, hG.fo328, hG.fa328, hG.fl328, ↓asP_h hG.fp311_28, hG.fo329, hG.fa329, hG.fl329, ↓asP_h hG.fp311_31, hG.fo330, hG.fa330, hG.fl330, ↓asP_h hG.fp311_34, hG.fo331, hG.fa331, hG.fl331, ↓asP_h hG.fp311_37, hG.fo332, hG.fa332, hG.fl332, ↓asP_h hG.fp311_38, hG.fo333, hG.fa333, hG.fl333, ↓asP_h hG.fp311_39, hG.fo334, hG.fl334, ↓asP_h hG.fp311_41, hG.fo335, hG.fa335, hG.fl335, ↓asP_h hG.fp311_42, hG.fo336, hG.fa336, hG.fl336, ↓asP_h hG.fp311_43, hG.fo337, hG.fa337, hG.fl337]
    refine ⟨_, _, _, _, rfl, j4, ?_⟩
    simp only [↓tX11_weighs, ↓opPush, ↓opILoad, ↓opLLoad, ↓opALoad, ↓opIStore, ↓opAStore, ↓opLStore, ↓opIInc, ↓opI1, ↓opII, ↓opID, ↓opLL, ↓opLD, ↓opLI, ↓opI2L, ↓opL2I, ↓opLcmp, ↓opDup, ↓opDupX1, ↓opDup2, ↓opPop, ↓opIf1, ↓opIf2, ↓opGoto, ↓opIRet, ↓opZRet, ↓opLRet, ↓opVRet, ↓opGetI, ↓opGetL, ↓opGetR, ↓opPutI, ↓opPutZ, ↓opPutL, ↓opPutR, ↓opIALoad, ↓opBALoad, ↓opZALoad, ↓opLALoad, ↓opAALoad, ↓opIAStore, ↓opZAStore, ↓opLAStore, ↓opALen, ↓opGetS, ↓opGetC, ↓opStrV, ↓opStrC, ↓opCallV, ↓opCallS, ↓opSw, ↓opCopy, ↓opCallT, ↓opBRet, ↓opObjI, ↓opNew, ↓opNewA, ↓opANew, ↓opAAStore, ↓opMNew, ↓opCallI, ↓wp_s, ↓wp_0, ↓popI_c, ↓popL_c, ↓popR_c, ↓pop1_i, ↓pop1_r, ↓ldI_0, ↓ldI_s, ↓ldL_0, ↓ldL_s, ↓ldR_0, ↓ldR_s, ↓stL_0, ↓stL_s, ↓tk_0, ↓tk_s, ↓Kc_s, ↓Kc_n, isS_0, isS_s, asP_c, gi_0, gi_s, noL_0, noL_s, isW_n, isW_i, isW_r, rcv_c, rcvT_c, swK_0, swK_s, catS, or_false, false_or, not_false_eq_true, not_true_eq_false, true_implies, false_implies, and_true, true_and, ↓reduceIte, Nat.reduceAdd, Nat.reduceLT, Nat.reduceLeDiff, Nat.reduceEqDiff, Nat.reduceSub, forall_const, eq_self, and_self, or_true, true_or]
  · refine ⟨I, eqR.rf, ?_⟩
    rw [if_neg c]
    refine Ct.run okX11_weighs TX11_weighs [] 60 rfl rfl ?_
    simp only [↓tX11_weighs, ↓opPush, ↓opILoad, ↓opLLoad, ↓opALoad, ↓opIStore, ↓opAStore, ↓opLStore, ↓opIInc, ↓opI1, ↓opII, ↓opID, ↓opLL, ↓opLD, ↓opLI, ↓opI2L, ↓opL2I, ↓opLcmp, ↓opDup, ↓opDupX1, ↓opDup2, ↓opPop, ↓opIf1, ↓opIf2, ↓opGoto, ↓opIRet, ↓opZRet, ↓opLRet, ↓opVRet, ↓opGetI, ↓opGetL, ↓opGetR, ↓opPutI, ↓opPutZ, ↓opPutL, ↓opPutR, ↓opIALoad, ↓opBALoad, ↓opZALoad, ↓opLALoad, ↓opAALoad, ↓opIAStore, ↓opZAStore, ↓opLAStore, ↓opALen, ↓opGetS, ↓opGetC, ↓opStrV, ↓opStrC, ↓opCallV, ↓opCallS, ↓opSw, ↓opCopy, ↓opCallT, ↓opBRet, ↓opObjI, ↓opNew, ↓opNewA, ↓opANew, ↓opAAStore, ↓opMNew, ↓opCallI, ↓wp_s, ↓wp_0, ↓popI_c, ↓popL_c, ↓popR_c, ↓pop1_i, ↓pop1_r, ↓ldI_0, ↓ldI_s, ↓ldL_0, ↓ldL_s, ↓ldR_0, ↓ldR_s, ↓stL_0, ↓stL_s, ↓tk_0, ↓tk_s, ↓Kc_s, ↓Kc_n, isS_0, isS_s, asP_c, gi_0, gi_s, noL_0, noL_s, isW_n, isW_i, isW_r, rcv_c, rcvT_c, swK_0, swK_s, catS, or_false, false_or, not_false_eq_true, not_true_eq_false, true_implies, false_implies, and_true, true_and, ↓reduceIte, Nat.reduceAdd, Nat.reduceLT, Nat.reduceLeDiff, Nat.reduceEqDiff, Nat.reduceSub, forall_const, eq_self, and_self, or_true, true_or, lve_i, lve_r, lve_l, lve_0, List.replicate_succ, List.replicate_zero, mX, mX11_weighs, hG.fo311, ↓asP_h hG.fp311_1, hG.fo312, hG.fa312, hG.fl312, ↓asP_h hG.fp311_6, hG.fo313, hG.fa313, hG.fl313, ↓asP_h hG.fp311_7, hG.fo314, hG.fa314, hG.fl314, ↓asP_h hG.fp311_8, hG.fo315, hG.fa315, hG.fl315, ↓asP_h hG.fp311_9, hG.fo316, hG.fa316, hG.fl316, ↓asP_h hG.fp311_10, hG.fo317, hG.fa317, hG.fl317, ↓asP_h hG.fp311_11, hG.fo318, hG.fa318, hG.fl318, ↓asP_h hG.fp311_12, hG.fo319, hG.fa319, hG.fl319, ↓asP_h hG.fp311_15, hG.fo320, hG.fa320, hG.fl320, ↓asP_h hG.fp311_16, hG.fo321, hG.fa321, hG.fl321, ↓asP_h hG.fp311_17, hG.fo322, hG.fa322, hG.fl322, ↓asP_h hG.fp311_18, hG.fo323, hG.fa323, hG.fl323, ↓asP_h hG.fp311_19, hG.fo324, hG.fa324, hG.fl324, ↓asP_h hG.fp311_22, hG.fo325, hG.fa325, hG.fl325, ↓asP_h hG.fp311_23, hG.fo326, hG.fa326, hG.fl326, ↓asP_h hG.fp311_24, hG.fo327, hG.fa327, hG.fl327, ↓asP_h hG.fp311_27, hG.fo328, hG.fa328, hG.fl328, ↓asP_h hG.fp311_28, hG.fo329, hG.fa329, hG.fl329, ↓asP_h hG.fp311_31, hG.fo330, hG.fa330, hG.fl330, ↓asP_h hG.fp311_34, hG.fo331, hG.fa331, hG.fl331, ↓asP_h hG.fp311_37, hG.fo332, hG.fa332, hG.fl332, ↓asP_h hG.fp311_38, hG.fo333, hG.fa333, hG.fl333, ↓asP_h hG.fp311_39, hG.fo334, hG.fl334, ↓asP_h hG.fp311_41, hG.fo335, hG.fa335, hG.fl335, ↓asP_h hG.fp311_42, hG.fo336, hG.fa336, hG.fl336, ↓asP_h hG.fp311_43, hG.fo337, hG.fa337, hG.fl337]
    refine ⟨_, _, _, _, rfl, ip _, ?_⟩
    by_cases c1 : ¬ p < 0 ∧ ¬ nI P ≤ p
    · rw [bInt_t c1]
      simp only [↓tX11_weighs, ↓opPush, ↓opILoad, ↓opLLoad, ↓opALoad, ↓opIStore, ↓opAStore, ↓opLStore, ↓opIInc, ↓opI1, ↓opII, ↓opID, ↓opLL, ↓opLD, ↓opLI, ↓opI2L, ↓opL2I, ↓opLcmp, ↓opDup, ↓opDupX1, ↓opDup2, ↓opPop, ↓opIf1, ↓opIf2, ↓opGoto, ↓opIRet, ↓opZRet, ↓opLRet, ↓opVRet, ↓opGetI, ↓opGetL, ↓opGetR, ↓opPutI, ↓opPutZ, ↓opPutL, ↓opPutR, ↓opIALoad, ↓opBALoad, ↓opZALoad, ↓opLALoad, ↓opAALoad, ↓opIAStore, ↓opZAStore, ↓opLAStore, ↓opALen, ↓opGetS, ↓opGetC, ↓opStrV, ↓opStrC, ↓opCallV, ↓opCallS, ↓opSw, ↓opCopy, ↓opCallT, ↓opBRet, ↓opObjI, ↓opNew, ↓opNewA, ↓opANew, ↓opAAStore, ↓opMNew, ↓opCallI, ↓wp_s, ↓wp_0, ↓popI_c, ↓popL_c, ↓popR_c, ↓pop1_i, ↓pop1_r, ↓ldI_0, ↓ldI_s, ↓ldL_0, ↓ldL_s, ↓ldR_0, ↓ldR_s, ↓stL_0, ↓stL_s, ↓tk_0, ↓tk_s, ↓Kc_s, ↓Kc_n, isS_0, isS_s, asP_c, gi_0, gi_s, noL_0, noL_s, isW_n, isW_i, isW_r, rcv_c, rcvT_c, swK_0, swK_s, catS, or_false, false_or, not_false_eq_true, not_true_eq_false, true_implies, false_implies, and_true, true_and, ↓reduceIte, Nat.reduceAdd, Nat.reduceLT, Nat.reduceLeDiff, Nat.reduceEqDiff, Nat.reduceSub, forall_const, eq_self, and_self, or_true, true_or, ne10, hG.fo311, ↓asP_h hG.fp311_1, hG.fo312, hG.fa312, hG.fl312, ↓asP_h hG.fp311_6, hG.fo313, hG.fa313, hG.fl313, ↓asP_h hG.fp311_7, hG.fo314, hG.fa314, hG.fl314, ↓asP_h hG.fp311_8, hG.fo315, hG.fa315, hG.fl315, ↓asP_h hG.fp311_9, hG.fo316, hG.fa316, hG.fl316, ↓asP_h hG.fp311_10, hG.fo317, hG.fa317, hG.fl317, ↓asP_h hG.fp311_11, hG.fo318, hG.fa318, hG.fl318, ↓asP_h hG.fp311_12, hG.fo319, hG.fa319, hG.fl319, ↓asP_h hG.fp311_15, hG.fo320, hG.fa320, hG.fl320, ↓asP_h hG.fp311_16, hG.fo321, hG.fa321, hG.fl321, ↓asP_h hG.fp311_17, hG.fo322, hG.fa322, hG.fl322, ↓asP_h hG.fp311_18, hG.fo323, hG.fa323, hG.fl323, ↓asP_h hG.fp311_19, hG.fo324, hG.fa324, hG.fl324, ↓asP_h hG.fp311_22, hG.fo325, hG.fa325, hG.fl325, ↓asP_h hG.fp311_23, hG.fo326, hG.fa326, hG.fl326, ↓asP_h hG.fp311_24, hG.fo327, hG.fa327, hG.fl327, ↓asP_h hG.fp311_27, hG.fo328, hG.fa328, hG.fl328, ↓asP_h hG.fp311_28, hG.fo329, hG.fa329, hG.fl329, ↓asP_h hG.fp311_31, hG.fo330, hG.fa330, hG.fl330, ↓asP_h hG.fp311_34, hG.fo331, hG.fa331, hG.fl331, ↓asP_h hG.fp311_37, hG.fo332, hG.fa332, hG.fl332, ↓asP_h hG.fp311_38, hG.fo333, hG.fa333, hG.fl333, ↓asP_h hG.fp311_39, hG.fo334, hG.fl334, ↓asP_h hG.fp311_41, hG.fo335, hG.fa335, hG.fl335, ↓asP_h hG.fp311_42, hG.fo336, hG.fa336, hG.fl336, ↓asP_h hG.fp311_43, hG.fo337, hG.fa337, hG.fl337]
      refine ⟨_, _, _, _, rfl, ip _, ?_⟩
      by_cases c2 : ¬ q < 0 ∧ ¬ nI P ≤ q
      · have c3 : p = q := Decidable.not_not.mp (fun z => c ⟨c1, c2, z⟩)
        rw [bInt_t c2]
        simp only [↓tX11_weighs, ↓opPush, ↓opILoad, ↓opLLoad, ↓opALoad, ↓opIStore, ↓opAStore, ↓opLStore, ↓opIInc, ↓opI1, ↓opII, ↓opID, ↓opLL, ↓opLD, ↓opLI, ↓opI2L, ↓opL2I, ↓opLcmp, ↓opDup, ↓opDupX1, ↓opDup2, ↓opPop, ↓opIf1, ↓opIf2, ↓opGoto, ↓opIRet, ↓opZRet, ↓opLRet, ↓opVRet, ↓opGetI, ↓opGetL, ↓opGetR, ↓opPutI, ↓opPutZ, ↓opPutL, ↓opPutR, ↓opIALoad, ↓opBALoad, ↓opZALoad, ↓opLALoad, ↓opAALoad, ↓opIAStore, ↓opZAStore, ↓opLAStore, ↓opALen, ↓opGetS, ↓opGetC, ↓opStrV, ↓opStrC, ↓opCallV, ↓opCallS, ↓opSw, ↓opCopy, ↓opCallT, ↓opBRet, ↓opObjI, ↓opNew, ↓opNewA, ↓opANew, ↓opAAStore, ↓opMNew, ↓opCallI, ↓wp_s, ↓wp_0, ↓popI_c, ↓popL_c, ↓popR_c, ↓pop1_i, ↓pop1_r, ↓ldI_0, ↓ldI_s, ↓ldL_0, ↓ldL_s, ↓ldR_0, ↓ldR_s, ↓stL_0, ↓stL_s, ↓tk_0, ↓tk_s, ↓Kc_s, ↓Kc_n, isS_0, isS_s, asP_c, gi_0, gi_s, noL_0, noL_s, isW_n, isW_i, isW_r, rcv_c, rcvT_c, swK_0, swK_s, catS, or_false, false_or, not_false_eq_true, not_true_eq_false, true_implies, false_implies, and_true, true_and, ↓reduceIte, Nat.reduceAdd, Nat.reduceLT, Nat.reduceLeDiff, Nat.reduceEqDiff, Nat.reduceSub, forall_const, eq_self, and_self, or_true, true_or, ne10, c3]
      · rw [bInt_f c2]
        simp only [↓tX11_weighs, ↓opPush, ↓opILoad, ↓opLLoad, ↓opALoad, ↓opIStore, ↓opAStore, ↓opLStore, ↓opIInc, ↓opI1, ↓opII, ↓opID, ↓opLL, ↓opLD, ↓opLI, ↓opI2L, ↓opL2I, ↓opLcmp, ↓opDup, ↓opDupX1, ↓opDup2, ↓opPop, ↓opIf1, ↓opIf2, ↓opGoto, ↓opIRet, ↓opZRet, ↓opLRet, ↓opVRet, ↓opGetI, ↓opGetL, ↓opGetR, ↓opPutI, ↓opPutZ, ↓opPutL, ↓opPutR, ↓opIALoad, ↓opBALoad, ↓opZALoad, ↓opLALoad, ↓opAALoad, ↓opIAStore, ↓opZAStore, ↓opLAStore, ↓opALen, ↓opGetS, ↓opGetC, ↓opStrV, ↓opStrC, ↓opCallV, ↓opCallS, ↓opSw, ↓opCopy, ↓opCallT, ↓opBRet, ↓opObjI, ↓opNew, ↓opNewA, ↓opANew, ↓opAAStore, ↓opMNew, ↓opCallI, ↓wp_s, ↓wp_0, ↓popI_c, ↓popL_c, ↓popR_c, ↓pop1_i, ↓pop1_r, ↓ldI_0, ↓ldI_s, ↓ldL_0, ↓ldL_s, ↓ldR_0, ↓ldR_s, ↓stL_0, ↓stL_s, ↓tk_0, ↓tk_s, ↓Kc_s, ↓Kc_n, isS_0, isS_s, asP_c, gi_0, gi_s, noL_0, noL_s, isW_n, isW_i, isW_r, rcv_c, rcvT_c, swK_0, swK_s, catS, or_false, false_or, not_false_eq_true, not_true_eq_false, true_implies, false_implies, and_true, true_and, ↓reduceIte, Nat.reduceAdd, Nat.reduceLT, Nat.reduceLeDiff, Nat.reduceEqDiff, Nat.reduceSub, forall_const, eq_self, and_self, or_true, true_or]
    · rw [bInt_f c1]
      simp only [↓tX11_weighs, ↓opPush, ↓opILoad, ↓opLLoad, ↓opALoad, ↓opIStore, ↓opAStore, ↓opLStore, ↓opIInc, ↓opI1, ↓opII, ↓opID, ↓opLL, ↓opLD, ↓opLI, ↓opI2L, ↓opL2I, ↓opLcmp, ↓opDup, ↓opDupX1, ↓opDup2, ↓opPop, ↓opIf1, ↓opIf2, ↓opGoto, ↓opIRet, ↓opZRet, ↓opLRet, ↓opVRet, ↓opGetI, ↓opGetL, ↓opGetR, ↓opPutI, ↓opPutZ, ↓opPutL, ↓opPutR, ↓opIALoad, ↓opBALoad, ↓opZALoad, ↓opLALoad, ↓opAALoad, ↓opIAStore, ↓opZAStore, ↓opLAStore, ↓opALen, ↓opGetS, ↓opGetC, ↓opStrV, ↓opStrC, ↓opCallV, ↓opCallS, ↓opSw, ↓opCopy, ↓opCallT, ↓opBRet, ↓opObjI, ↓opNew, ↓opNewA, ↓opANew, ↓opAAStore, ↓opMNew, ↓opCallI, ↓wp_s, ↓wp_0, ↓popI_c, ↓popL_c, ↓popR_c, ↓pop1_i, ↓pop1_r, ↓ldI_0, ↓ldI_s, ↓ldL_0, ↓ldL_s, ↓ldR_0, ↓ldR_s, ↓stL_0, ↓stL_s, ↓tk_0, ↓tk_s, ↓Kc_s, ↓Kc_n, isS_0, isS_s, asP_c, gi_0, gi_s, noL_0, noL_s, isW_n, isW_i, isW_r, rcv_c, rcvT_c, swK_0, swK_s, catS, or_false, false_or, not_false_eq_true, not_true_eq_false, true_implies, false_implies, and_true, true_and, ↓reduceIte, Nat.reduceAdd, Nat.reduceLT, Nat.reduceLeDiff, Nat.reduceEqDiff, Nat.reduceSub, forall_const, eq_self, and_self, or_true, true_or]
theorem Z_ls {J : IM} (z : eqZ I J) : lsE I J := ⟨fun b h1 h2 => Z311 z b (by omega), Z311 z 326 (by decide), by rw [Z311 z 311 (by decide)], by rw [Z311 z 311 (by decide)], by rw [Z311 z 311 (by decide)]⟩
theorem r9999 {x : Int32} (h : rng x 999) : rng x 9999 := by
  obtain ⟨n, hn, e⟩ := h
  exact ⟨n, by omega, e⟩
theorem j_weighs (hX : JX G I) (p q : Int32) : JRes E d G I mX10_weighs mX11_weighs [.int p, .int q] := by
  obtain ⟨hG, hv, -, ⟨N, css, hL⟩, ⟨P, T, hP, A, ptr, dm, hB⟩, -, -⟩ := id hX
  obtain ⟨I1, z, r1⟩ := m_weighs (E := E) (d := d + 56) hG hP.r0 hL.ok p q
  obtain ⟨W, w1, w2, w3⟩ := hL.wh (E := E) hP
  have e1 : rv I1 = rv I := rv_congr (Z311 z 328 (by decide))
  have r2 := at_V (I := I1) (by rw [e1]; exact hB.st) (r_weighs (E := E) (d := d + 51) (I := I1) hG hP.1.1 (by rw [Z311 z 311 (by decide)]; exact hP.2.1.2.1) (w1 G I1 hG (Z_ls z)) hB.ok p q)
  refine JRes.q hX z r1 ?_
  have ea : aWeighs I p q = if (¬ p < 0 ∧ ¬ nI P ≤ p) ∧ (¬ q < 0 ∧ ¬ nI P ≤ q) ∧ ¬ p = q then W (getS I 36) p q else -1 := by
    unfold aWeighs are2 isP
    rw [hP.2.1.1]
    by_cases c : (¬ p < 0 ∧ ¬ nI P ≤ p) ∧ (¬ q < 0 ∧ ¬ nI P ≤ q) ∧ ¬ p = q
    · rw [if_pos c, if_pos c]
      obtain ⟨a, ha, rfl⟩ := pn_lt c.1
      obtain ⟨b, hb, rfl⟩ := pn_lt c.2.1
      exact (w3 _ (r9999 hB.r6) (getS I 36) a b rfl ha hb).symm
    · rw [if_neg c, if_neg c]
  rw [ea]
  exact r2
theorem j_stays (hX : JX G I) (p : Int32) : JRes E d G I mX10_stays mX11_stays [.int p] := by
  obtain ⟨hG, hv, -, -, ⟨P, T, hP, A, ptr, dm, hB⟩, -, -⟩ := id hX
  obtain ⟨I1, z, r1⟩ := m_stays (E := E) (d := d + 56) hG (I := I) p
  have e1 : rv I1 = rv I := rv_congr (Z311 z 328 (by decide))
  have e3 : I1 325 0 = I 15 2 := by rw [Z311 z 325 (by decide)]; exact hP.2.2.1.1
  have r2 := at_V (I := I1) (by rw [e1]; exact hB.st) (r_stays (E := E) (d := d + 53) (I := I1) hG hP.1.1 (by rw [Z311 z 311 (by decide)]; exact hP.2.1.2.1) (by rw [e3]; exact f10 hP.2.2.1.2) hB.ok p)
  refine JRes.q hX z r1 ?_
  rw [e3] at r2
  unfold aStays isP
  rw [hP.2.1.1]
  exact r2
theorem j_empty (hX : JX G I) : JRes E d G I mX10_empty mX11_empty [] := by
  obtain ⟨hG, hv, -, -, ⟨P, T, hP, A, ptr, dm, hB⟩, -, -⟩ := id hX
  obtain ⟨I1, z, r1⟩ := m_empty (E := E) (d := d + 56) hG (I := I)
  have e1 : rv I1 = rv I := rv_congr (Z311 z 328 (by decide))
  have e3 : I1 325 0 = I 15 2 := by rw [Z311 z 325 (by decide)]; exact hP.2.2.1.1
  have r2 := at_V (I := I1) (by rw [e1]; exact hB.st) (r_empty (E := E) (d := d + 53) (I := I1) hG hP.1.1 (by rw [Z311 z 311 (by decide)]; exact hP.2.1.2.1) (by rw [e3]; exact f10 hP.2.2.1.2) hB.ok)
  refine JRes.q hX z r1 ?_
  rw [e3] at r2
  have ea : aEmpty I = if P = 0 then -1 else emF (I 15 2) 100 0 (getS I 36) := by
    unfold aEmpty
    rw [hP.2.1.1]
    by_cases c : P = 0
    · rw [if_pos c, if_pos ((P0 hP.1.1).mpr c)]
    · rw [if_neg c, if_neg (fun z => c ((P0 hP.1.1).mp z))]
  rw [ea]
  exact r2
theorem j_fewest (hX : JX G I) (s n w : Int32) : JRes E d G I mX10_fewest mX11_fewest [.int s, .int n, .int w] := by
  obtain ⟨hG, hv, -, ⟨N, css, hL⟩, ⟨P, T, hP, A, ptr, dm, hB⟩, -, -⟩ := id hX
  obtain ⟨I1, z, r1⟩ := m_fewest (E := E) (d := d + 49) hG hP.r0 hL.ok s n w
  obtain ⟨W, w1, w2, w3⟩ := hL.wh (E := E) hP
  have e1 : rv I1 = rv I := rv_congr (Z311 z 328 (by decide))
  have e3 : I1 325 0 = I 15 2 := by rw [Z311 z 325 (by decide)]; exact hP.2.2.1.1
  have r2 := at_V (I := I1) (by rw [e1]; exact hB.st) (r_fewest (E := E) (d := d + 40) (I := I1) hG hP.1.1 (by rw [Z311 z 311 (by decide)]; exact hP.2.1.2.1) (by rw [e3]; exact f10 hP.2.2.1.2) (w1 G I1 hG (Z_ls z)) (fun V p q _ _ _ => w2 V _ _) hB.ok s n w)
  refine JRes.q hX z r1 ?_
  rw [e3] at r2
  have ea : aFew I s n w = @ite Int32 (oFewR P s n w) (by unfold oFewR; infer_instance) (fwF (fun o => lsR (I 15 2) W P n.toNatClampNeg s P 0 o 0 (getS I 36)) w (P + 1) 0) (-1) := by
    have hc : (I 15 0).toNatClampNeg = P := by rw [hP.2.1.1, nI_clamp (by have := hP.1.1; omega)]
    have el : (fun o => lsR (I 15 2) (wgt I) P n.toNatClampNeg s P 0 o 0 (getS I 36)) = fun o => lsR (I 15 2) W P n.toNatClampNeg s P 0 o 0 (getS I 36) := by
      funext o
      exact (ls_agree (w3 _ (r9999 hB.r6)) P 0 o 0 (getS I 36) (by omega) rfl).symm
    have pw : ∀ P, P ≤ 5 → (1 : Int32) <<< (nI P &&& 31) = nI (2 ^ P) ∧ evb P = nI (2 ^ P) - 1 := by decide
    obtain ⟨q1, q2⟩ := pw P hP.1.1
    have hlt : 2 ^ P < 2 ^ 30 := Nat.pow_lt_pow_right (by decide) (by have := hP.1.1; omega)
    have iff : oFew I s n w ↔ oFewR P s n w := by
      unfold oFew oFewR
      rw [hP.2.1.1, q1, q2, lt_pred hlt, P0 hP.1.1]
      constructor
      · rintro ⟨⟨x1, x2, x3⟩, x4, x5, x6, x7⟩
        exact ⟨x1, ⟨x2, Int32.not_le.mpr x3⟩, ⟨x4, x5⟩, x6, Int32.not_lt.mpr x7⟩
      · rintro ⟨x1, ⟨x2, x3⟩, ⟨x4, x5⟩, x6, x7⟩
        exact ⟨⟨x1, x2, Int32.not_le.mp x3⟩, x4, x5, x6, Int32.not_lt.mp x7⟩
    unfold aFew
    rw [hc]
    by_cases c : oFewR P s n w
    · rw [if_pos (iff.mpr c), if_pos c, el]
    · rw [if_neg (fun z => c (iff.mp z)), if_neg c]
  rw [ea]
  exact r2
theorem j_rid (hX : JX G I) (p : Int32) : JRes E d G I mX10_rid mX11_rid [.int p] := by
  obtain ⟨hG, hv, -, -, ⟨P, T, hP, A, ptr, dm, hB⟩, -, -⟩ := id hX
  have r1 := m_rid (E := E) (d := d + 57) hG (I := I) p
  have e3 : I 325 0 = I 15 2 := hP.2.2.1.1
  have r2 := at_V (I := I) hB.st (r_rid (E := E) (d := d + 56) (I := I) hG hP.1.1 hP.2.1.2.1 (by rw [e3]; exact f10 hP.2.2.1.2) hB.ok p)
  refine JRes.q hX eqZ.rf r1 ?_
  rw [e3] at r2
  unfold aRid isP
  rw [hP.2.1.1]
  exact r2
theorem j_treaty (hX : JX G I) (p q : Int32) : JRes E d G I mX10_treaty mX11_treaty [.int p, .int q] := by
  obtain ⟨hG, hv, -, -, ⟨P, T, hP, A, ptr, dm, hB⟩, -, -⟩ := id hX
  refine JRes.q0 hX (m_treaty (E := E) (d := d + 57) hG (I := I) p q) (r_treaty (E := E) (d := d + 56) hG hP.1.1 hP.2.1.2.1 p q) ?_
  unfold aTreaty are2 isP
  rw [hP.2.1.1, bInt_congr (ty_eqS hB.st p q)]
theorem j_shares (hX : JX G I) (p c : Int32) : JRes E d G I mX10_shares mX11_shares [.int p, .int c] := by
  obtain ⟨hG, hv, -, -, ⟨P, T, hP, A, ptr, dm, hB⟩, -, -⟩ := id hX
  refine JRes.q0 hX (m_shares (E := E) (d := d + 56) hG (I := I) p c) (r_shares (E := E) (d := d + 57) hG hP.1.1 hP.2.1.2.1 hB.okR p c) ?_
  unfold aShares isP
  rw [hP.2.1.1, wa_congr hB.st, wa_congr hB.st, hb_eqS hB.st, eqS_hw hB.st (r := 2) (by decide) (by decide)]
  by_cases cc : (¬ p < 0 ∧ ¬ nI P ≤ p) ∧ (¬ c < 0 ∧ ¬ 999 < c)
  · rw [if_pos cc]
    exact (if_pos ⟨cc.1, cc.2.1, Int32.not_lt.mp cc.2.2⟩).symm
  · rw [if_neg cc, if_neg (fun z => cc ⟨z.1, z.2.1, Int32.not_lt.mpr z.2.2⟩)]
theorem j_odds (hX : JX G I) (p n c : Int32) : JRes E d G I mX10_odds mX11_odds [.int p, .int n, .int c] := by
  obtain ⟨hG, hv, -, -, ⟨P, T, hP, A, ptr, dm, hB⟩, -, -⟩ := id hX
  obtain ⟨I1, z, r1⟩ := m_odds (E := E) (d := d + 48) hG (I := I) p n c
  have e1 : rv I1 = rv I := rv_congr (Z311 z 328 (by decide))
  have e3 : I1 325 0 = I 15 2 := by rw [Z311 z 325 (by decide)]; exact hP.2.2.1.1
  have r2 := at_V (I := I1) (by rw [e1]; exact hB.st) (r_odds (E := E) (d := d + 44) (I := I1) hG hP.1.1 (by rw [Z311 z 311 (by decide)]; exact hP.2.1.2.1) (by rw [e3]; exact hP.2.2.1.2) hB.ok p n c)
  refine JRes.q hX z r1 ?_
  rw [e3] at r2
  have ea : aOdds I p n c = if (¬ p < 0 ∧ ¬ nI P ≤ p) ∧ (¬ n < 0 ∧ ¬ 8 < n) ∧ (¬ c < 0 ∧ ¬ 100 < c) then (ptF (I 15 2) p c n.toNatClampNeg 1000000000 (getS I 36)).toInt32 else -1 := by
    unfold aOdds oOdds isP
    rw [hP.2.1.1]
    by_cases cc : (¬ p < 0 ∧ ¬ nI P ≤ p) ∧ (¬ n < 0 ∧ ¬ 8 < n) ∧ (¬ c < 0 ∧ ¬ 100 < c)
    · rw [if_pos cc, if_pos ⟨cc.1, cc.2.1.1, cc.2.1.2, cc.2.2.1, Int32.not_lt.mp cc.2.2.2⟩]
    · rw [if_neg cc, if_neg (fun z => cc ⟨z.1, ⟨z.2.1, z.2.2.1⟩, z.2.2.2.1, Int32.not_lt.mpr z.2.2.2.2⟩)]
  rw [ea]
  exact r2
end
