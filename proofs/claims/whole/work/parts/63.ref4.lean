/-! ===== the reference: its sunset is the class's ===== -/
theorem fa_and (a b : Nat) : nI a &&& nI b = nI (a &&& b) := by
  apply Int32.toBitVec_inj.1
  show BitVec.ofNat 32 a &&& BitVec.ofNat 32 b = BitVec.ofNat 32 (a &&& b)
  apply BitVec.eq_of_getLsbD_eq
  intro i hi
  simp [hi]
theorem fa_or (a b : Nat) : nI a ||| nI b = nI (a ||| b) := by
  apply Int32.toBitVec_inj.1
  show BitVec.ofNat 32 a ||| BitVec.ofNat 32 b = BitVec.ofNat 32 (a ||| b)
  apply BitVec.eq_of_getLsbD_eq
  intro i hi
  simp [hi]
theorem x_nI (x : Int32) : x = nI x.toBitVec.toNat := by
  apply Int32.toBitVec_inj.mp
  show x.toBitVec = BitVec.ofNat 32 x.toBitVec.toNat
  simp
theorem and_lt {P t : Nat} (ht : t < 2 ^ P) (x : Int32) : ∃ b, b < 2 ^ P ∧ nI t &&& x = nI b := by
  refine ⟨t &&& x.toBitVec.toNat, Nat.lt_of_le_of_lt Nat.and_le_left ht, ?_⟩
  rw [← fa_and, ← x_nI x]
theorem p32 {P t : Nat} (hP : P ≤ 5) (ht : t < 2 ^ P) : t < 32 := Nat.lt_of_lt_of_le ht (Nat.pow_le_pow_right (n := 2) (by decide) hP)
theorem wb_0 : ∀ a, a ≤ 10 → maxI 0 (0 - nI a) = 0 := by decide
theorem wb_30 : ∀ w, w ≤ 30 → ∀ a, a ≤ 10 → ∃ j, j ≤ 30 ∧ maxI 0 (nI w - nI a) = nI j := by decide
theorem rng_0 {x : Int32} {n : Nat} (hn : n < 2 ^ 31) (h : rng x n) (c : x ≤ 0) : x = 0 := by
  obtain ⟨k, hk, rfl⟩ := h
  by_cases e : k = 0
  · subst e; rfl
  · exact absurd c (nI_nle (by omega) (by omega))
theorem wbf_0 {x f ki : Int32} (h : rng x 30) (hf : rng f 10) (c : x ≤ 0) : wbf x ki f = 0 := by
  rw [rng_0 (by decide) h c]
  obtain ⟨a, ha, rfl⟩ := hf
  unfold wbf
  split
  · rfl
  · exact wb_0 a ha
theorem wbf_rng {x f ki : Int32} (h : rng x 30) (hf : rng f 10) : rng (wbf x ki f) 30 := by
  unfold wbf
  split
  · exact h
  · obtain ⟨w, hw, rfl⟩ := h
    obtain ⟨a, ha, rfl⟩ := hf
    exact wb_30 w hw a ha
theorem fa_fd {P : Nat} {f : Int32} {V : SV} (hV : SVok P V) (hf : rng f 10) : eqS (faV f V) (fdV f V) := fun r k hk => by
  unfold faV fdV upr
  by_cases e : r = 3
  · have hk12 : k < 12 := by unfold inSt at hk; omega
    rw [if_pos e, if_pos e]
    unfold faG fdW
    by_cases c : V 3 k ≤ 0
    · have h3 := (hV.1 k hk12).2.2.1
      rw [if_pos c, wbf_0 h3 hf c, rng_0 (by decide) h3 c]
    · rw [if_neg c]
  · rw [if_neg e, if_neg e]
theorem le00 : (0 : Int32) ≤ 0 := by decide
theorem lv_go {P : Nat} (hP5 : P ≤ 5) {f : Int32} {V : SV} (hV : SVok P V) (hf : rng f 10) : foldN (lvS (evb P) (faV f V)) 12 (V 0 4) = goF f V := by
  obtain ⟨h1, t, ht, h4⟩ := hV
  refine lv_su (f := f) (V := V) (W := faV f V) (fun k hk => ⟨?_, ?_⟩) (by rw [h4]; exact evb_and P hP5 t ht) 12 (Nat.le_refl _)
  · unfold hoP faV
    rw [show upr V 3 (faG f V) 3 k = wbf (V 3 k) (V 4 k) f from if_pos rfl, upr_ne (by decide), upr_ne (by decide)]
    refine ⟨fun z => ⟨fun c => ?_, z.1, z.2⟩, fun z => z.2⟩
    exact z.1 (by rw [wbf_0 (h1 k hk).2.2.1 hf c]; exact le00)
  · unfold faV
    rw [upr_ne (by decide)]
theorem ll_pass {P : Nat} (hP5 : P ≤ 5) {g : Int32} {W : SV} (hW : SVok P W) : eqS (llV g P W) (passF g W) := fun r k hk => by
  obtain ⟨h1, t, ht, h4⟩ := hW
  unfold llV passF upr
  by_cases e : r = 0
  · subst e
    simp only [show ¬ (0 : Nat) = 1 by decide, show ¬ (0 : Nat) = 3 by decide, if_false]
  · have hk2 : k < 12 := by unfold inSt at hk; omega
    obtain ⟨-, ⟨p, hp, e2⟩, -, -⟩ := h1 k hk2
    have hh : heF (W 0 4) (W 2 k) P 0 = if hrV W k = 0 then -1 else ntzI (hrV W k) := by
      unfold hrV
      rw [h4, e2]
      exact he_ok P hP5 t ht p (by omega)
    unfold ll1 ll3 pw1 pw3
    rw [hh]
    by_cases c : hrV W k = 0
    · simp only [c, if_true, not_true_eq_false, and_false, and_true, if_false]
    · have hne : ¬ ntzI (hrV W k) = -1 := by
        unfold hrV at c ⊢
        rw [h4] at c ⊢
        obtain ⟨b, hb, eb⟩ := and_lt ht (bitI (W 2 k) ^^^ -1)
        rw [eb] at c ⊢
        obtain ⟨j, hj, ej⟩ := ntz_rng b (p32 hP5 hb) c
        rw [ej]
        exact nI_m1 (by omega)
      simp only [c, hne, if_false, not_false_eq_true, and_true, and_false]
theorem no_inT0 (p : Int32) : ¬ inT 0 p := by
  unfold inT
  rw [Int32.zero_shiftRight, Int32.zero_and]
  decide
theorem pass_0 (W : SV) : passF 0 W = W := by
  funext r k
  have h : ¬ pwC 0 W k := fun z => no_inT0 _ z.2.2
  unfold passF upr
  by_cases e : r = 1
  · rw [if_pos e, e]
    exact if_neg (fun z => h z.1)
  · rw [if_neg e]
    by_cases e3 : r = 3
    · rw [if_pos e3, e3]
      exact if_neg (fun z => h z.1)
    · rw [if_neg e3]
theorem fd_04 (f : Int32) (V : SV) : fdV f V 0 4 = V 0 4 := fd_num f V 4
/-- the State when all have faded and the goers gone, before grudges are willed -/
def goV (f : Int32) (V : SV) : SV := up2 (fdV f V) 0 4 (V 0 4 &&& suF f V)
theorem sun_go (f : Int32) (V : SV) : eqS (sunF f V) (passF (goF f V) (goV f V)) := by
  unfold sunF
  by_cases c : goF f V = 0
  · rw [if_pos c, c, pass_0]
    unfold goV
    have e : V 0 4 &&& suF f V = V 0 4 := by
      rw [← bw2]
      rw [show V 0 4 &&& (suF f V ^^^ -1) = 0 from c]
      exact bw3 _
    intro r k hk
    by_cases er : r = 0 ∧ k = 4
    · rw [er.1, er.2, up2_eqS, e, fd_04]
    · by_cases e0 : r = 0
      · subst e0
        rw [up2_nk (fun z => er ⟨rfl, z⟩)]
      · rw [up2_ne e0]
  · rw [if_neg c]
    exact eqS.rf
theorem goV_ok {P : Nat} {f : Int32} {V : SV} (hV : SVok P V) (hf : rng f 10) : SVok P (goV f V) := by
  obtain ⟨h1, t, ht, h4⟩ := hV
  obtain ⟨b, hb, eb⟩ := and_lt ht (suF f V)
  refine ⟨fun k hk => ?_, b, hb, ?_⟩
  · obtain ⟨a1, a2, a3, a4⟩ := h1 k hk
    unfold goV
    rw [up2_ne (by decide), up2_ne (by decide), up2_ne (by decide), up2_ne (by decide)]
    unfold fdV
    rw [upr_ne (b := 1) (by decide), upr_ne (b := 2) (by decide), upr_ne (b := 4) (by decide), show upr V 3 (fdW f V) 3 k = fdW f V k from if_pos rfl]
    refine ⟨a1, a2, ?_, a4⟩
    unfold fdW
    split
    · exact a3
    · exact wbf_rng a3 hf
  · unfold goV
    rw [up2_eqS, h4]
    exact eb
theorem pass_ok {P : Nat} (hP5 : P ≤ 5) {g : Int32} {W : SV} (hW : SVok P W) : SVok P (passF g W) := by
  obtain ⟨h1, t, ht, h4⟩ := hW
  refine ⟨fun k hk => ?_, t, ht, ?_⟩
  · obtain ⟨a1, a2, a3, a4⟩ := h1 k hk
    unfold passF
    rw [show upr (upr W 3 (pw3 g W)) 1 (pw1 g W) 1 k = pw1 g W k from if_pos rfl, upr_ne (a := 1) (b := 2) (by decide), upr_ne (a := 1) (b := 3) (by decide), upr_ne (a := 1) (b := 4) (by decide), upr_ne (a := 3) (b := 2) (by decide), upr_ne (a := 3) (b := 4) (by decide), show upr W 3 (pw3 g W) 3 k = pw3 g W k from if_pos rfl]
    refine ⟨?_, a2, ?_, a4⟩
    · unfold pw1
      split
      · rename_i c
        have c2 := c.2
        unfold hrV at c2 ⊢
        rw [h4] at c2 ⊢
        obtain ⟨b, hb, eb⟩ := and_lt ht (bitI (W 2 k) ^^^ -1)
        rw [eb] at c2 ⊢
        exact ntz_rng b (p32 hP5 hb) c2
      · exact a1
    · unfold pw3
      split
      · exact ⟨0, by decide, rfl⟩
      · exact a3
  · unfold passF
    rw [upr_ne (by decide), upr_ne (by decide)]
    exact h4
theorem sun_ok {P : Nat} (hP5 : P ≤ 5) {f : Int32} {V : SV} (hV : SVok P V) (hf : rng f 10) : SVok P (sunF f V) := (pass_ok hP5 (goV_ok hV hf)).congr (sun_go f V).symm
theorem l2_eq {V W : SV} (h : eqS V W) : eqS (l2V V) (l2V W) := by
  unfold l2V
  rw [h 0 5 in05, h 0 6 in06]
  exact eqS_up2 (eqS_up2 h)
theorem ll_congr {g : Int32} {P : Nat} {V W : SV} (h : eqS V W) : eqS (llV g P V) (llV g P W) := fun r k hk => by
  unfold llV upr
  by_cases e : r = 0
  · subst e
    simp only [show ¬ (0 : Nat) = 1 by decide, show ¬ (0 : Nat) = 3 by decide, if_false]
    exact h 0 k hk
  · have hk2 : k < 12 := by unfold inSt at hk; omega
    have h1 := h 1 k (inSt_r (by decide) (by decide) hk2)
    have h2 := h 2 k (inSt_r (by decide) (by decide) hk2)
    have h3 := h 3 k (inSt_r (by decide) (by decide) hk2)
    have h4 := h 4 k (inSt_r (by decide) (by decide) hk2)
    have hr := h r k hk
    unfold ll1 ll3 pwC
    rw [h 0 4 in04, h1, h2, h3, h4, hr]
section
variable {E : EV} {d : Nat} {G : GD} {I : IM}
set_option maxRecDepth 100000 in
set_option maxHeartbeats 4000000 in
theorem r_live' (hG : GTs G) {P : Nat} (hP5 : P ≤ 5) (hP : I 311 25 = nI P) {f : Int32} (hf : rng f 10) {V : SV} (hV : SVok P V) : Run E (d + 4) mX11_live [.ref 311, .int f] (0, 0) G (rp I V) (some (.int (goF f V))) G (rp I (l2V (sunF f V))) := by
  have r := r_live (E := E) (d := d) hG hP5 hP f (goF f V) V (up2 (faV f V) 0 4 (V 0 4 &&& (goF f V ^^^ -1))) (lv_go hP5 hV hf).symm rfl
  have e : eqS (up2 (faV f V) 0 4 (V 0 4 &&& (goF f V ^^^ -1))) (goV f V) := by
    unfold goV
    rw [show V 0 4 &&& (goF f V ^^^ -1) = V 0 4 &&& suF f V from bw2 _ _]
    exact eqS_up2 (fa_fd hV hf)
  rw [rp_congr (l2_eq (((ll_congr e).trans (ll_pass hP5 (goV_ok hV hf))).trans (sun_go f V).symm))] at r
  exact r
theorem l2_ok {P : Nat} {V : SV} (h : SVok P V) : SVok P (l2V V) := by
  obtain ⟨h1, t, ht, h4⟩ := h
  refine ⟨fun k hk => ?_, t, ht, ?_⟩
  · unfold l2V
    rw [up2_ne (by decide), up2_ne (by decide), up2_ne (by decide), up2_ne (by decide), up2_ne (by decide), up2_ne (by decide), up2_ne (by decide), up2_ne (by decide)]
    exact h1 k hk
  · unfold l2V
    rw [up2_nk (by decide), up2_nk (by decide)]
    exact h4
set_option maxRecDepth 100000 in
set_option maxHeartbeats 4000000 in
theorem r_liveOne (hG : GTs G) {P : Nat} (hP5 : P ≤ 5) (hP : I 311 25 = nI P) (hf : rng (I 325 0) 10) {V : SV} (hV : SVok P V) : Run E (d + 5) mX11_liveOne [.ref 311] (0, 0) G (rp I V) (some (.int (goF (I 325 0) V))) G (rp I (l2V (sunF (I 325 0) V))) := by
  refine Ct.run okX11_liveOne TX11_liveOne [] 60 rfl rfl ?_
  have e : rp I V 325 0 = I 325 0 := by rw [rp_ne (by decide)]
  simp only [↓tX11_liveOne, ↓opPush, ↓opILoad, ↓opLLoad, ↓opALoad, ↓opIStore, ↓opAStore, ↓opLStore, ↓opIInc, ↓opI1, ↓opII, ↓opID, ↓opLL, ↓opLD, ↓opLI, ↓opI2L, ↓opL2I, ↓opLcmp, ↓opDup, ↓opDupX1, ↓opDup2, ↓opPop, ↓opIf1, ↓opIf2, ↓opGoto, ↓opIRet, ↓opZRet, ↓opLRet, ↓opVRet, ↓opGetI, ↓opGetL, ↓opGetR, ↓opPutI, ↓opPutZ, ↓opPutL, ↓opPutR, ↓opIALoad, ↓opBALoad, ↓opZALoad, ↓opLALoad, ↓opAALoad, ↓opIAStore, ↓opZAStore, ↓opLAStore, ↓opALen, ↓opGetS, ↓opGetC, ↓opStrV, ↓opStrC, ↓opCallV, ↓opCallS, ↓opSw, ↓opCopy, ↓opCallT, ↓opBRet, ↓opObjI, ↓opNew, ↓opNewA, ↓opANew, ↓opAAStore, ↓opMNew, ↓opCallI, ↓wp_s, ↓wp_0, ↓popI_c, ↓popL_c, ↓popR_c, ↓pop1_i, ↓pop1_r, ↓ldI_0, ↓ldI_s, ↓ldL_0, ↓ldL_s, ↓ldR_0, ↓ldR_s, ↓stL_0, ↓stL_s, ↓tk_0, ↓tk_s, ↓Kc_s, ↓Kc_n, isS_0, isS_s, asP_c, gi_0, gi_s, noL_0, noL_s, isW_n, isW_i, isW_r, rcv_c, rcvT_c, swK_0, swK_s, catS, or_false, false_or, not_false_eq_true, not_true_eq_false, true_implies, false_implies, and_true, true_and, ↓reduceIte, Nat.reduceAdd, Nat.reduceLT, Nat.reduceLeDiff, Nat.reduceEqDiff, Nat.reduceSub, forall_const, eq_self, and_self, or_true, true_or, lve_i, lve_r, lve_l, lve_0, List.replicate_succ, List.replicate_zero, mX, mX11_liveOne, hG.fo311, ↓asP_h hG.fp311_22, hG.fo325, hG.fa325, hG.fl325, vpL (i := 0) (n := 2) (by decide), show (0 : Int32).toNatClampNeg = 0 by decide, e]
  refine ⟨_, _, _, _, rfl, r_live' hG hP5 hP hf hV, ?_⟩
  simp only [↓tX11_liveOne, ↓opPush, ↓opILoad, ↓opLLoad, ↓opALoad, ↓opIStore, ↓opAStore, ↓opLStore, ↓opIInc, ↓opI1, ↓opII, ↓opID, ↓opLL, ↓opLD, ↓opLI, ↓opI2L, ↓opL2I, ↓opLcmp, ↓opDup, ↓opDupX1, ↓opDup2, ↓opPop, ↓opIf1, ↓opIf2, ↓opGoto, ↓opIRet, ↓opZRet, ↓opLRet, ↓opVRet, ↓opGetI, ↓opGetL, ↓opGetR, ↓opPutI, ↓opPutZ, ↓opPutL, ↓opPutR, ↓opIALoad, ↓opBALoad, ↓opZALoad, ↓opLALoad, ↓opAALoad, ↓opIAStore, ↓opZAStore, ↓opLAStore, ↓opALen, ↓opGetS, ↓opGetC, ↓opStrV, ↓opStrC, ↓opCallV, ↓opCallS, ↓opSw, ↓opCopy, ↓opCallT, ↓opBRet, ↓opObjI, ↓opNew, ↓opNewA, ↓opANew, ↓opAAStore, ↓opMNew, ↓opCallI, ↓wp_s, ↓wp_0, ↓popI_c, ↓popL_c, ↓popR_c, ↓pop1_i, ↓pop1_r, ↓ldI_0, ↓ldI_s, ↓ldL_0, ↓ldL_s, ↓ldR_0, ↓ldR_s, ↓stL_0, ↓stL_s, ↓tk_0, ↓tk_s, ↓Kc_s, ↓Kc_n, isS_0, isS_s, asP_c, gi_0, gi_s, noL_0, noL_s, isW_n, isW_i, isW_r, rcv_c, rcvT_c, swK_0, swK_s, catS, or_false, false_or, not_false_eq_true, not_true_eq_false, true_implies, false_implies, and_true, true_and, ↓reduceIte, Nat.reduceAdd, Nat.reduceLT, Nat.reduceLeDiff, Nat.reduceEqDiff, Nat.reduceSub, forall_const, eq_self, and_self, or_true, true_or]
end
