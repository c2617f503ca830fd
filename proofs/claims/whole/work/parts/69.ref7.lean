/-! ===== the reference: the fewest offences ===== -/
def dsF (f w : Int32) : Nat → SV → Bool
  | 0, _ => true
  | n + 1, V => if w &&& (sunF f V 0 4 ^^^ -1) = 0 then dsF f w n (sunF f V) else false
theorem ds_num {f w a b : Int32} : ∀ (n : Nat) (V : SV), dsF f w n (num V a b) = dsF f w n V
  | 0, _ => rfl
  | n + 1, V => by
    unfold dsF
    rw [sun_num2, num_4, ds_num n]
theorem eqS_ds {f w : Int32} : ∀ (n : Nat) {V W : SV}, eqS V W → dsF f w n V = dsF f w n W
  | 0, _, _, _ => rfl
  | n + 1, V, W, h => by
    unfold dsF
    rw [eqS_sun h 0 4 in04, eqS_ds n (eqS_sun h)]
theorem and_sub (w t : Int32) : w &&& (t ^^^ -1) = 0 ↔ t &&& w = w := by
  rw [← Int32.toBitVec_inj, ← Int32.toBitVec_inj]
  simp only [Int32.toBitVec_and, Int32.toBitVec_xor]
  constructor
  · intro h
    apply BitVec.eq_of_getLsbD_eq
    intro i hi
    have := congrArg (fun z => z.getLsbD i) h
    simp only [BitVec.getLsbD_and, BitVec.getLsbD_xor, m1bit hi] at this
    rw [show (0 : Int32).toBitVec = 0#32 from rfl, BitVec.getLsbD_zero] at this
    rw [BitVec.getLsbD_and]
    revert this
    cases t.toBitVec.getLsbD i <;> cases w.toBitVec.getLsbD i <;> simp
  · intro h
    apply BitVec.eq_of_getLsbD_eq
    intro i hi
    have := congrArg (fun z => z.getLsbD i) h
    simp only [BitVec.getLsbD_and] at this
    rw [show (0 : Int32).toBitVec = 0#32 from rfl, BitVec.getLsbD_zero]
    simp only [BitVec.getLsbD_and, BitVec.getLsbD_xor, m1bit hi]
    revert this
    cases t.toBitVec.getLsbD i <;> cases w.toBitVec.getLsbD i <;> simp
theorem and_part {t s w : Int32} (h : (t &&& s) &&& w = w) : t &&& w = w := by
  rw [← Int32.toBitVec_inj] at h ⊢
  simp only [Int32.toBitVec_and] at h ⊢
  apply BitVec.eq_of_getLsbD_eq
  intro i hi
  have := congrArg (fun z => z.getLsbD i) h
  simp only [BitVec.getLsbD_and] at this ⊢
  revert this
  cases t.toBitVec.getLsbD i <;> cases s.toBitVec.getLsbD i <;> cases w.toBitVec.getLsbD i <;> simp
theorem sun_04 (f : Int32) (V : SV) : sunF f V 0 4 = V 0 4 &&& suF f V := by
  rw [sun_go f V 0 4 in04]
  unfold passF
  rw [upr_ne (by decide), upr_ne (by decide)]
  unfold goV
  rw [up2_eqS]
theorem sc_0 (f : Int32) (V : SV) : ∀ n, foldN (scS f V) n 0 = 0 → ∀ k, k < n → V 3 k ≤ 0 ∨ wbf (V 3 k) (V 4 k) f = V 3 k
  | 0, _, k, hk => absurd hk (by omega)
  | n + 1, h, k, hk => by
    have hs : ∀ a, scS f V n a = if V 3 n ≤ 0 then a else if a = 0 then (if wbf (V 3 n) (V 4 n) f = V 3 n then 0 else 1) else 1 := fun a => rfl
    rw [foldN_s, hs] at h
    by_cases c1 : V 3 n ≤ 0
    · rw [if_pos c1] at h
      by_cases e : k = n
      · subst e; exact Or.inl c1
      · exact sc_0 f V n h k (by omega)
    · rw [if_neg c1] at h
      by_cases c2 : foldN (scS f V) n 0 = 0
      · rw [if_pos c2] at h
        by_cases c3 : wbf (V 3 n) (V 4 n) f = V 3 n
        · by_cases e : k = n
          · subst e; exact Or.inr c3
          · exact sc_0 f V n c2 k (by omega)
        · rw [if_neg c3] at h
          exact absurd h (by decide)
      · rw [if_neg c2] at h
        exact absurd h (by decide)
theorem sun_stay {f : Int32} {V : SV} (h : sunR f V = 0) : eqS (sunF f V) V := by
  unfold sunR at h
  unfold sunF
  by_cases c : goF f V = 0
  · rw [if_pos c] at h ⊢
    intro r k hk
    unfold fdV upr
    by_cases e : r = 3
    · subst e
      have hk12 : k < 12 := by unfold inSt at hk; omega
      rw [if_pos rfl]
      unfold fdW
      rcases sc_0 f V 12 h k hk12 with c2 | c2
      · rw [if_pos c2]
      · by_cases c3 : V 3 k ≤ 0
        · rw [if_pos c3]
        · rw [if_neg c3, c2]
    · rw [if_neg e]
  · rw [if_neg c] at h
    exact absurd h (by decide)
theorem ds_stay {f w : Int32} {V : SV} (h : eqS (sunF f V) V) (hw : V 0 4 &&& w = w) : ∀ n, dsF f w n V = true
  | 0 => rfl
  | n + 1 => by
    unfold dsF
    rw [h 0 4 in04, if_pos ((and_sub w (V 0 4)).mpr hw), eqS_ds n h]
    exact ds_stay h hw n
theorem ds_as {f w : Int32} : ∀ (n : Nat) (V : SV), dsF f w n V = (asV f w n V).1
  | 0, _ => rfl
  | n + 1, V => by
    unfold dsF asV
    by_cases c : sunF f V 0 4 &&& w = w
    · rw [if_pos ((and_sub _ _).mpr c), if_pos c]
      by_cases c2 : sunR f V = 0
      · rw [if_pos c2]
        have h := sun_stay c2
        rw [eqS_ds n h]
        exact ds_stay h (by rw [← h 0 4 in04]; exact c) n
      · rw [if_neg c2]
        exact ds_as n (sunF f V)
    · rw [if_neg (fun z => c ((and_sub _ _).mp z)), if_neg c]
theorem ds_in {f w : Int32} {n : Nat} {V : SV} (hn : 1 ≤ n) : dsF f w n V = true ↔ (V 0 4 &&& w = w) ∧ (asV f w n V).1 = true := by
  rw [← ds_as]
  refine ⟨fun h => ⟨?_, h⟩, fun h => h.2⟩
  obtain ⟨m, rfl⟩ : ∃ m, n = m + 1 := ⟨n - 1, by omega⟩
  unfold dsF at h
  by_cases c : w &&& (sunF f V 0 4 ^^^ -1) = 0
  · have := (and_sub _ _).mp c
    rw [sun_04] at this
    exact and_part this
  · rw [if_neg c] at h
    cases h
section
variable {E : EV} {d : Nat} {G : GD} {I : IM}
set_option maxRecDepth 100000 in
set_option maxHeartbeats 4000000 in
theorem r_doStay (hG : GTs G) {P : Nat} (hP5 : P ≤ 5) (hP : I 311 25 = nI P) (hf : rng (I 325 0) 10) {V : SV} (hV : SVok P V) (w : Int32) {m : Nat} (hm : m < 2 ^ 31) : Run E (d + 6) mX11_doStay [.ref 311, .int w, .int (nI m)] (0, 0) G (rp I V) (some (.int (bInt (dsF (I 325 0) w m V = true)))) G (rp (paI I 10 V 51) V) := by
  have hA : hasA (paI I 10 V 51) 10 V := paI_has I 10 V
  have e25 : paI I 10 V 51 311 25 = nI P := by rw [paI_ne (by decide)]; exact hP
  have e325 : paI I 10 V 51 325 0 = I 325 0 := by rw [paI_ne (by decide)]
  have e48 : ∀ W, rp (paI I 10 V 51) W 328 48 = W 0 4 := fun W => rp_0 (k := 4) (Or.inl rfl)
  have out : ∀ (W : SV) (b : Int32), b = 0 ∨ b = 1 → ∀ z, Ex E (d + 6) mX11_doStay (fun x y c => x = some (.int b) ∧ y = G ∧ c = rp (paI I 10 V 51) V) 52 [some (.ref 311), some (.int w), some (.int (nI m)), some (.int b), z] [] (0, 0) G (rp (paI I 10 V 51) W) := by
    intro W b hb z
    refine Ex.run TX11_doStay [] 60 ?_
    simp only [↓tX11_doStay, ↓opPush, ↓opILoad, ↓opLLoad, ↓opALoad, ↓opIStore, ↓opAStore, ↓opLStore, ↓opIInc, ↓opI1, ↓opII, ↓opID, ↓opLL, ↓opLD, ↓opLI, ↓opI2L, ↓opL2I, ↓opLcmp, ↓opDup, ↓opDupX1, ↓opDup2, ↓opPop, ↓opIf1, ↓opIf2, ↓opGoto, ↓opIRet, ↓opZRet, ↓opLRet, ↓opVRet, ↓opGetI, ↓opGetL, ↓opGetR, ↓opPutI, ↓opPutZ, ↓opPutL, ↓opPutR, ↓opIALoad, ↓opBALoad, ↓opZALoad, ↓opLALoad, ↓opAALoad, ↓opIAStore, ↓opZAStore, ↓opLAStore, ↓opALen, ↓opGetS, ↓opGetC, ↓opStrV, ↓opStrC, ↓opCallV, ↓opCallS, ↓opSw, ↓opCopy, ↓opCallT, ↓opBRet, ↓opObjI, ↓opNew, ↓opNewA, ↓opANew, ↓opAAStore, ↓opMNew, ↓opCallI, ↓wp_s, ↓wp_0, ↓popI_c, ↓popL_c, ↓popR_c, ↓pop1_i, ↓pop1_r, ↓ldI_0, ↓ldI_s, ↓ldL_0, ↓ldL_s, ↓ldR_0, ↓ldR_s, ↓stL_0, ↓stL_s, ↓tk_0, ↓tk_s, ↓Kc_s, ↓Kc_n, isS_0, isS_s, asP_c, gi_0, gi_s, noL_0, noL_s, isW_n, isW_i, isW_r, rcv_c, rcvT_c, swK_0, swK_s, catS, or_false, false_or, not_false_eq_true, not_true_eq_false, true_implies, false_implies, and_true, true_and, ↓reduceIte, Nat.reduceAdd, Nat.reduceLT, Nat.reduceLeDiff, Nat.reduceEqDiff, Nat.reduceSub, forall_const, eq_self, and_self, or_true, true_or, hG.fo311, ↓asP_h hG.fp311_1, hG.fo312, hG.fa312, hG.fl312, ↓asP_h hG.fp311_6, hG.fo313, hG.fa313, hG.fl313, ↓asP_h hG.fp311_7, hG.fo314, hG.fa314, hG.fl314, ↓asP_h hG.fp311_8, hG.fo315, hG.fa315, hG.fl315, ↓asP_h hG.fp311_9, hG.fo316, hG.fa316, hG.fl316, ↓asP_h hG.fp311_10, hG.fo317, hG.fa317, hG.fl317, ↓asP_h hG.fp311_11, hG.fo318, hG.fa318, hG.fl318, ↓asP_h hG.fp311_12, hG.fo319, hG.fa319, hG.fl319, ↓asP_h hG.fp311_15, hG.fo320, hG.fa320, hG.fl320, ↓asP_h hG.fp311_16, hG.fo321, hG.fa321, hG.fl321, ↓asP_h hG.fp311_17, hG.fo322, hG.fa322, hG.fl322, ↓asP_h hG.fp311_18, hG.fo323, hG.fa323, hG.fl323, ↓asP_h hG.fp311_19, hG.fo324, hG.fa324, hG.fl324, ↓asP_h hG.fp311_22, hG.fo325, hG.fa325, hG.fl325, ↓asP_h hG.fp311_23, hG.fo326, hG.fa326, hG.fl326, ↓asP_h hG.fp311_24, hG.fo327, hG.fa327, hG.fl327, ↓asP_h hG.fp311_27, hG.fo328, hG.fa328, hG.fl328, ↓asP_h hG.fp311_28, hG.fo329, hG.fa329, hG.fl329, ↓asP_h hG.fp311_31, hG.fo330, hG.fa330, hG.fl330, ↓asP_h hG.fp311_34, hG.fo331, hG.fa331, hG.fl331, ↓asP_h hG.fp311_37, hG.fo332, hG.fa332, hG.fl332, ↓asP_h hG.fp311_38, hG.fo333, hG.fa333, hG.fl333, ↓asP_h hG.fp311_39, hG.fo334, hG.fl334, ↓asP_h hG.fp311_41, hG.fo335, hG.fa335, hG.fl335, ↓asP_h hG.fp311_42, hG.fo336, hG.fa336, hG.fl336, ↓asP_h hG.fp311_43, hG.fo337, hG.fa337, hG.fl337]
    refine ⟨_, _, _, _, rfl, r_takeBack hG (D := 10) (by decide) hA, ?_⟩
    simp only [↓tX11_doStay, ↓opPush, ↓opILoad, ↓opLLoad, ↓opALoad, ↓opIStore, ↓opAStore, ↓opLStore, ↓opIInc, ↓opI1, ↓opII, ↓opID, ↓opLL, ↓opLD, ↓opLI, ↓opI2L, ↓opL2I, ↓opLcmp, ↓opDup, ↓opDupX1, ↓opDup2, ↓opPop, ↓opIf1, ↓opIf2, ↓opGoto, ↓opIRet, ↓opZRet, ↓opLRet, ↓opVRet, ↓opGetI, ↓opGetL, ↓opGetR, ↓opPutI, ↓opPutZ, ↓opPutL, ↓opPutR, ↓opIALoad, ↓opBALoad, ↓opZALoad, ↓opLALoad, ↓opAALoad, ↓opIAStore, ↓opZAStore, ↓opLAStore, ↓opALen, ↓opGetS, ↓opGetC, ↓opStrV, ↓opStrC, ↓opCallV, ↓opCallS, ↓opSw, ↓opCopy, ↓opCallT, ↓opBRet, ↓opObjI, ↓opNew, ↓opNewA, ↓opANew, ↓opAAStore, ↓opMNew, ↓opCallI, ↓wp_s, ↓wp_0, ↓popI_c, ↓popL_c, ↓popR_c, ↓pop1_i, ↓pop1_r, ↓ldI_0, ↓ldI_s, ↓ldL_0, ↓ldL_s, ↓ldR_0, ↓ldR_s, ↓stL_0, ↓stL_s, ↓tk_0, ↓tk_s, ↓Kc_s, ↓Kc_n, isS_0, isS_s, asP_c, gi_0, gi_s, noL_0, noL_s, isW_n, isW_i, isW_r, rcv_c, rcvT_c, swK_0, swK_s, catS, or_false, false_or, not_false_eq_true, not_true_eq_false, true_implies, false_implies, and_true, true_and, ↓reduceIte, Nat.reduceAdd, Nat.reduceLT, Nat.reduceLeDiff, Nat.reduceEqDiff, Nat.reduceSub, forall_const, eq_self, and_self, or_true, true_or]
    exact hb
  have key : ∀ (k n : Nat) (W : SV), n + k = m → SVok P W → Ex E (d + 6) mX11_doStay (fun x y c => x = some (.int (bInt (dsF (I 325 0) w k W = true))) ∧ y = G ∧ c = rp (paI I 10 V 51) V) 11 [some (.ref 311), some (.int w), some (.int (nI m)), some (.int 1), some (.int (nI n))] [] (0, 0) G (rp (paI I 10 V 51) W) := by
    intro k
    induction k with
    | zero =>
      intro n W hn hW
      obtain rfl : n = m := by omega
      rw [bInt_t (show dsF (I 325 0) w 0 W = true from rfl)]
      refine Ex.run TX11_doStay [11, 52] 60 ?_
      simp only [↓tX11_doStay, ↓opPush, ↓opILoad, ↓opLLoad, ↓opALoad, ↓opIStore, ↓opAStore, ↓opLStore, ↓opIInc, ↓opI1, ↓opII, ↓opID, ↓opLL, ↓opLD, ↓opLI, ↓opI2L, ↓opL2I, ↓opLcmp, ↓opDup, ↓opDupX1, ↓opDup2, ↓opPop, ↓opIf1, ↓opIf2, ↓opGoto, ↓opIRet, ↓opZRet, ↓opLRet, ↓opVRet, ↓opGetI, ↓opGetL, ↓opGetR, ↓opPutI, ↓opPutZ, ↓opPutL, ↓opPutR, ↓opIALoad, ↓opBALoad, ↓opZALoad, ↓opLALoad, ↓opAALoad, ↓opIAStore, ↓opZAStore, ↓opLAStore, ↓opALen, ↓opGetS, ↓opGetC, ↓opStrV, ↓opStrC, ↓opCallV, ↓opCallS, ↓opSw, ↓opCopy, ↓opCallT, ↓opBRet, ↓opObjI, ↓opNew, ↓opNewA, ↓opANew, ↓opAAStore, ↓opMNew, ↓opCallI, ↓wp_s, ↓wp_0, ↓popI_c, ↓popL_c, ↓popR_c, ↓pop1_i, ↓pop1_r, ↓ldI_0, ↓ldI_s, ↓ldL_0, ↓ldL_s, ↓ldR_0, ↓ldR_s, ↓stL_0, ↓stL_s, ↓tk_0, ↓tk_s, ↓Kc_s, ↓Kc_n, isS_0, isS_s, asP_c, gi_0, gi_s, noL_0, noL_s, isW_n, isW_i, isW_r, rcv_c, rcvT_c, swK_0, swK_s, catS, or_false, false_or, not_false_eq_true, not_true_eq_false, true_implies, false_implies, and_true, true_and, ↓reduceIte, Nat.reduceAdd, Nat.reduceLT, Nat.reduceLeDiff, Nat.reduceEqDiff, Nat.reduceSub, forall_const, eq_self, and_self, or_true, true_or, Int32.le_refl]
      exact out W 1 (Or.inr rfl) _
    | succ k ih =>
      intro n W hn hW
      have hl := r_liveOne (E := E) (d := d) (I := paI I 10 V 51) hG hP5 e25 (by rw [e325]; exact hf) hW
      rw [e325] at hl
      refine Ex.run TX11_doStay [11, 52] 60 ?_
      simp only [↓tX11_doStay, ↓opPush, ↓opILoad, ↓opLLoad, ↓opALoad, ↓opIStore, ↓opAStore, ↓opLStore, ↓opIInc, ↓opI1, ↓opII, ↓opID, ↓opLL, ↓opLD, ↓opLI, ↓opI2L, ↓opL2I, ↓opLcmp, ↓opDup, ↓opDupX1, ↓opDup2, ↓opPop, ↓opIf1, ↓opIf2, ↓opGoto, ↓opIRet, ↓opZRet, ↓opLRet, ↓opVRet, ↓opGetI, ↓opGetL, ↓opGetR, ↓opPutI, ↓opPutZ, ↓opPutL, ↓opPutR, ↓opIALoad, ↓opBALoad, ↓opZALoad, ↓opLALoad, ↓opAALoad, ↓opIAStore, ↓opZAStore, ↓opLAStore, ↓opALen, ↓opGetS, ↓opGetC, ↓opStrV, ↓opStrC, ↓opCallV, ↓opCallS, ↓opSw, ↓opCopy, ↓opCallT, ↓opBRet, ↓opObjI, ↓opNew, ↓opNewA, ↓opANew, ↓opAAStore, ↓opMNew, ↓opCallI, ↓wp_s, ↓wp_0, ↓popI_c, ↓popL_c, ↓popR_c, ↓pop1_i, ↓pop1_r, ↓ldI_0, ↓ldI_s, ↓ldL_0, ↓ldL_s, ↓ldR_0, ↓ldR_s, ↓stL_0, ↓stL_s, ↓tk_0, ↓tk_s, ↓Kc_s, ↓Kc_n, isS_0, isS_s, asP_c, gi_0, gi_s, noL_0, noL_s, isW_n, isW_i, isW_r, rcv_c, rcvT_c, swK_0, swK_s, catS, or_false, false_or, not_false_eq_true, not_true_eq_false, true_implies, false_implies, and_true, true_and, ↓reduceIte, Nat.reduceAdd, Nat.reduceLT, Nat.reduceLeDiff, Nat.reduceEqDiff, Nat.reduceSub, forall_const, eq_self, and_self, or_true, true_or, ne10, eq_false (nI_ge (a := n) (b := m) (by omega) hm), hG.fo311, ↓asP_h hG.fp311_1, hG.fo312, hG.fa312, hG.fl312, ↓asP_h hG.fp311_6, hG.fo313, hG.fa313, hG.fl313, ↓asP_h hG.fp311_7, hG.fo314, hG.fa314, hG.fl314, ↓asP_h hG.fp311_8, hG.fo315, hG.fa315, hG.fl315, ↓asP_h hG.fp311_9, hG.fo316, hG.fa316, hG.fl316, ↓asP_h hG.fp311_10, hG.fo317, hG.fa317, hG.fl317, ↓asP_h hG.fp311_11, hG.fo318, hG.fa318, hG.fl318, ↓asP_h hG.fp311_12, hG.fo319, hG.fa319, hG.fl319, ↓asP_h hG.fp311_15, hG.fo320, hG.fa320, hG.fl320, ↓asP_h hG.fp311_16, hG.fo321, hG.fa321, hG.fl321, ↓asP_h hG.fp311_17, hG.fo322, hG.fa322, hG.fl322, ↓asP_h hG.fp311_18, hG.fo323, hG.fa323, hG.fl323, ↓asP_h hG.fp311_19, hG.fo324, hG.fa324, hG.fl324, ↓asP_h hG.fp311_22, hG.fo325, hG.fa325, hG.fl325, ↓asP_h hG.fp311_23, hG.fo326, hG.fa326, hG.fl326, ↓asP_h hG.fp311_24, hG.fo327, hG.fa327, hG.fl327, ↓asP_h hG.fp311_27, hG.fo328, hG.fa328, hG.fl328, ↓asP_h hG.fp311_28, hG.fo329, hG.fa329, hG.fl329, ↓asP_h hG.fp311_31, hG.fo330, hG.fa330, hG.fl330, ↓asP_h hG.fp311_34, hG.fo331, hG.fa331, hG.fl331, ↓asP_h hG.fp311_37, hG.fo332, hG.fa332, hG.fl332, ↓asP_h hG.fp311_38, hG.fo333, hG.fa333, hG.fl333, ↓asP_h hG.fp311_39, hG.fo334, hG.fl334, ↓asP_h hG.fp311_41, hG.fo335, hG.fa335, hG.fl335, ↓asP_h hG.fp311_42, hG.fo336, hG.fa336, hG.fl336, ↓asP_h hG.fp311_43, hG.fo337, hG.fa337, hG.fl337]
      refine ⟨_, _, _, _, rfl, hl, ?_⟩
      simp only [↓tX11_doStay, ↓opPush, ↓opILoad, ↓opLLoad, ↓opALoad, ↓opIStore, ↓opAStore, ↓opLStore, ↓opIInc, ↓opI1, ↓opII, ↓opID, ↓opLL, ↓opLD, ↓opLI, ↓opI2L, ↓opL2I, ↓opLcmp, ↓opDup, ↓opDupX1, ↓opDup2, ↓opPop, ↓opIf1, ↓opIf2, ↓opGoto, ↓opIRet, ↓opZRet, ↓opLRet, ↓opVRet, ↓opGetI, ↓opGetL, ↓opGetR, ↓opPutI, ↓opPutZ, ↓opPutL, ↓opPutR, ↓opIALoad, ↓opBALoad, ↓opZALoad, ↓opLALoad, ↓opAALoad, ↓opIAStore, ↓opZAStore, ↓opLAStore, ↓opALen, ↓opGetS, ↓opGetC, ↓opStrV, ↓opStrC, ↓opCallV, ↓opCallS, ↓opSw, ↓opCopy, ↓opCallT, ↓opBRet, ↓opObjI, ↓opNew, ↓opNewA, ↓opANew, ↓opAAStore, ↓opMNew, ↓opCallI, ↓wp_s, ↓wp_0, ↓popI_c, ↓popL_c, ↓popR_c, ↓pop1_i, ↓pop1_r, ↓ldI_0, ↓ldI_s, ↓ldL_0, ↓ldL_s, ↓ldR_0, ↓ldR_s, ↓stL_0, ↓stL_s, ↓tk_0, ↓tk_s, ↓Kc_s, ↓Kc_n, isS_0, isS_s, asP_c, gi_0, gi_s, noL_0, noL_s, isW_n, isW_i, isW_r, rcv_c, rcvT_c, swK_0, swK_s, catS, or_false, false_or, not_false_eq_true, not_true_eq_false, true_implies, false_implies, and_true, true_and, ↓reduceIte, Nat.reduceAdd, Nat.reduceLT, Nat.reduceLeDiff, Nat.reduceEqDiff, Nat.reduceSub, forall_const, eq_self, and_self, or_true, true_or, hG.fo311, ↓asP_h hG.fp311_27, hG.fo328, hG.fa328, hG.fl328, vpL (i := 48) (n := 232) (by decide), show (48 : Int32).toNatClampNeg = 48 by decide, e48]
      rw [l2_num, num_4]
      refine ⟨fun c => ?_, fun c => ?_⟩
      · rw [show dsF (I 325 0) w (k + 1) W = dsF (I 325 0) w k (sunF (I 325 0) W) from if_pos c]
        have := ih (n + 1) (num (sunF (I 325 0) W) (minI 999 (sunF (I 325 0) W 0 5 + 1)) (sunF (I 325 0) W 0 6 + 1)) (by omega) (num_ok (sun_ok hP5 hW hf))
        rw [ds_num, nI_succ] at this
        exact this
      · rw [show dsF (I 325 0) w (k + 1) W = false from if_neg c, bInt_f (show ¬ false = true by decide)]
        refine Ex.run TX11_doStay [52] 60 ?_
        simp only [↓tX11_doStay, ↓opPush, ↓opILoad, ↓opLLoad, ↓opALoad, ↓opIStore, ↓opAStore, ↓opLStore, ↓opIInc, ↓opI1, ↓opII, ↓opID, ↓opLL, ↓opLD, ↓opLI, ↓opI2L, ↓opL2I, ↓opLcmp, ↓opDup, ↓opDupX1, ↓opDup2, ↓opPop, ↓opIf1, ↓opIf2, ↓opGoto, ↓opIRet, ↓opZRet, ↓opLRet, ↓opVRet, ↓opGetI, ↓opGetL, ↓opGetR, ↓opPutI, ↓opPutZ, ↓opPutL, ↓opPutR, ↓opIALoad, ↓opBALoad, ↓opZALoad, ↓opLALoad, ↓opAALoad, ↓opIAStore, ↓opZAStore, ↓opLAStore, ↓opALen, ↓opGetS, ↓opGetC, ↓opStrV, ↓opStrC, ↓opCallV, ↓opCallS, ↓opSw, ↓opCopy, ↓opCallT, ↓opBRet, ↓opObjI, ↓opNew, ↓opNewA, ↓opANew, ↓opAAStore, ↓opMNew, ↓opCallI, ↓wp_s, ↓wp_0, ↓popI_c, ↓popL_c, ↓popR_c, ↓pop1_i, ↓pop1_r, ↓ldI_0, ↓ldI_s, ↓ldL_0, ↓ldL_s, ↓ldR_0, ↓ldR_s, ↓stL_0, ↓stL_s, ↓tk_0, ↓tk_s, ↓Kc_s, ↓Kc_n, isS_0, isS_s, asP_c, gi_0, gi_s, noL_0, noL_s, isW_n, isW_i, isW_r, rcv_c, rcvT_c, swK_0, swK_s, catS, or_false, false_or, not_false_eq_true, not_true_eq_false, true_implies, false_implies, and_true, true_and, ↓reduceIte, Nat.reduceAdd, Nat.reduceLT, Nat.reduceLeDiff, Nat.reduceEqDiff, Nat.reduceSub, forall_const, eq_self, and_self, or_true, true_or]
        refine ⟨fun _ => out _ 0 (Or.inl rfl) _, fun _ => out _ 0 (Or.inl rfl) _⟩
  refine Ct.run okX11_doStay TX11_doStay [11, 52] 60 rfl rfl ?_
  simp only [↓tX11_doStay, ↓opPush, ↓opILoad, ↓opLLoad, ↓opALoad, ↓opIStore, ↓opAStore, ↓opLStore, ↓opIInc, ↓opI1, ↓opII, ↓opID, ↓opLL, ↓opLD, ↓opLI, ↓opI2L, ↓opL2I, ↓opLcmp, ↓opDup, ↓opDupX1, ↓opDup2, ↓opPop, ↓opIf1, ↓opIf2, ↓opGoto, ↓opIRet, ↓opZRet, ↓opLRet, ↓opVRet, ↓opGetI, ↓opGetL, ↓opGetR, ↓opPutI, ↓opPutZ, ↓opPutL, ↓opPutR, ↓opIALoad, ↓opBALoad, ↓opZALoad, ↓opLALoad, ↓opAALoad, ↓opIAStore, ↓opZAStore, ↓opLAStore, ↓opALen, ↓opGetS, ↓opGetC, ↓opStrV, ↓opStrC, ↓opCallV, ↓opCallS, ↓opSw, ↓opCopy, ↓opCallT, ↓opBRet, ↓opObjI, ↓opNew, ↓opNewA, ↓opANew, ↓opAAStore, ↓opMNew, ↓opCallI, ↓wp_s, ↓wp_0, ↓popI_c, ↓popL_c, ↓popR_c, ↓pop1_i, ↓pop1_r, ↓ldI_0, ↓ldI_s, ↓ldL_0, ↓ldL_s, ↓ldR_0, ↓ldR_s, ↓stL_0, ↓stL_s, ↓tk_0, ↓tk_s, ↓Kc_s, ↓Kc_n, isS_0, isS_s, asP_c, gi_0, gi_s, noL_0, noL_s, isW_n, isW_i, isW_r, rcv_c, rcvT_c, swK_0, swK_s, catS, or_false, false_or, not_false_eq_true, not_true_eq_false, true_implies, false_implies, and_true, true_and, ↓reduceIte, Nat.reduceAdd, Nat.reduceLT, Nat.reduceLeDiff, Nat.reduceEqDiff, Nat.reduceSub, forall_const, eq_self, and_self, or_true, true_or, lve_i, lve_r, lve_l, lve_0, List.replicate_succ, List.replicate_zero, mX, mX11_doStay, hG.fo311, ↓asP_h hG.fp311_1, hG.fo312, hG.fa312, hG.fl312, ↓asP_h hG.fp311_6, hG.fo313, hG.fa313, hG.fl313, ↓asP_h hG.fp311_7, hG.fo314, hG.fa314, hG.fl314, ↓asP_h hG.fp311_8, hG.fo315, hG.fa315, hG.fl315, ↓asP_h hG.fp311_9, hG.fo316, hG.fa316, hG.fl316, ↓asP_h hG.fp311_10, hG.fo317, hG.fa317, hG.fl317, ↓asP_h hG.fp311_11, hG.fo318, hG.fa318, hG.fl318, ↓asP_h hG.fp311_12, hG.fo319, hG.fa319, hG.fl319, ↓asP_h hG.fp311_15, hG.fo320, hG.fa320, hG.fl320, ↓asP_h hG.fp311_16, hG.fo321, hG.fa321, hG.fl321, ↓asP_h hG.fp311_17, hG.fo322, hG.fa322, hG.fl322, ↓asP_h hG.fp311_18, hG.fo323, hG.fa323, hG.fl323, ↓asP_h hG.fp311_19, hG.fo324, hG.fa324, hG.fl324, ↓asP_h hG.fp311_22, hG.fo325, hG.fa325, hG.fl325, ↓asP_h hG.fp311_23, hG.fo326, hG.fa326, hG.fl326, ↓asP_h hG.fp311_24, hG.fo327, hG.fa327, hG.fl327, ↓asP_h hG.fp311_27, hG.fo328, hG.fa328, hG.fl328, ↓asP_h hG.fp311_28, hG.fo329, hG.fa329, hG.fl329, ↓asP_h hG.fp311_31, hG.fo330, hG.fa330, hG.fl330, ↓asP_h hG.fp311_34, hG.fo331, hG.fa331, hG.fl331, ↓asP_h hG.fp311_37, hG.fo332, hG.fa332, hG.fl332, ↓asP_h hG.fp311_38, hG.fo333, hG.fa333, hG.fl333, ↓asP_h hG.fp311_39, hG.fo334, hG.fl334, ↓asP_h hG.fp311_41, hG.fo335, hG.fa335, hG.fl335, ↓asP_h hG.fp311_42, hG.fo336, hG.fa336, hG.fl336, ↓asP_h hG.fp311_43, hG.fo337, hG.fa337, hG.fl337]
  refine ⟨_, _, _, _, rfl, r_putAside hG (D := 10) (by decide) V, ?_⟩
  simp only [↓tX11_doStay, ↓opPush, ↓opILoad, ↓opLLoad, ↓opALoad, ↓opIStore, ↓opAStore, ↓opLStore, ↓opIInc, ↓opI1, ↓opII, ↓opID, ↓opLL, ↓opLD, ↓opLI, ↓opI2L, ↓opL2I, ↓opLcmp, ↓opDup, ↓opDupX1, ↓opDup2, ↓opPop, ↓opIf1, ↓opIf2, ↓opGoto, ↓opIRet, ↓opZRet, ↓opLRet, ↓opVRet, ↓opGetI, ↓opGetL, ↓opGetR, ↓opPutI, ↓opPutZ, ↓opPutL, ↓opPutR, ↓opIALoad, ↓opBALoad, ↓opZALoad, ↓opLALoad, ↓opAALoad, ↓opIAStore, ↓opZAStore, ↓opLAStore, ↓opALen, ↓opGetS, ↓opGetC, ↓opStrV, ↓opStrC, ↓opCallV, ↓opCallS, ↓opSw, ↓opCopy, ↓opCallT, ↓opBRet, ↓opObjI, ↓opNew, ↓opNewA, ↓opANew, ↓opAAStore, ↓opMNew, ↓opCallI, ↓wp_s, ↓wp_0, ↓popI_c, ↓popL_c, ↓popR_c, ↓pop1_i, ↓pop1_r, ↓ldI_0, ↓ldI_s, ↓ldL_0, ↓ldL_s, ↓ldR_0, ↓ldR_s, ↓stL_0, ↓stL_s, ↓tk_0, ↓tk_s, ↓Kc_s, ↓Kc_n, isS_0, isS_s, asP_c, gi_0, gi_s, noL_0, noL_s, isW_n, isW_i, isW_r, rcv_c, rcvT_c, swK_0, swK_s, catS, or_false, false_or, not_false_eq_true, not_true_eq_false, true_implies, false_implies, and_true, true_and, ↓reduceIte, Nat.reduceAdd, Nat.reduceLT, Nat.reduceLeDiff, Nat.reduceEqDiff, Nat.reduceSub, forall_const, eq_self, and_self, or_true, true_or]
  exact key m 0 V (by omega) hV
/-- what has been found -/
def BS (I : IM) (b : BT) : Prop := match b with
  | none => I 311 35 = -1
  | some x => I 311 35 = x.2 ∧ I 311 36 = nI x.1
/-- found among smaller rows -/
def BR (N : Nat) (b : BT) : Prop := ∀ x, b = some x → x.1 ≤ 5 ∧ ∃ r : Nat, r < N ∧ x.2 = nI r
theorem ls_row {f : Int32} {W : SV → Int32 → Int32 → Int32} {P n : Nat} {w : Int32} (hP : P ≤ 5) : ∀ {m ps left r : Nat} {V : SV}, lsR f W P n w m ps left (nI r) V = -1 ∨ ∃ q : Nat, r * 10 ^ m ≤ q ∧ q < (r + 1) * 10 ^ m ∧ lsR f W P n w m ps left (nI r) V = nI q
  | 0, ps, left, r, V => by
    unfold lsR
    split
    · exact Or.inl rfl
    · split
      · exact Or.inr ⟨r, by omega, by omega, rfl⟩
      · exact Or.inl rfl
  | m + 1, ps, left, r, V => by
    have e10 : ∀ o : Nat, nI r * 10 + nI o = nI (10 * r + o) := fun o => by
      rw [show (10 : Int32) = nI 10 from rfl, pk_mul, nI_add, Nat.mul_comm]
    have p10 : 10 ^ (m + 1) = 10 * 10 ^ m := by rw [Nat.pow_succ, Nat.mul_comm]
    have up : ∀ o q : Nat, o ≤ 9 → (10 * r + o) * 10 ^ m ≤ q → q < (10 * r + o + 1) * 10 ^ m → r * 10 ^ (m + 1) ≤ q ∧ q < (r + 1) * 10 ^ (m + 1) := fun o q ho h1 h2 => by
      rw [p10]
      constructor
      · refine Nat.le_trans ?_ h1
        rw [← Nat.mul_assoc]
        exact Nat.mul_le_mul_right _ (by omega)
      · refine Nat.lt_of_lt_of_le h2 ?_
        rw [← Nat.mul_assoc]
        exact Nat.mul_le_mul_right _ (by omega)
    have hfst : ∀ (F : Nat → Int32), (∀ o, o < P → F o = -1 ∨ ∃ q : Nat, r * 10 ^ (m + 1) ≤ q ∧ q < (r + 1) * 10 ^ (m + 1) ∧ F o = nI q) → ∀ k o, o + k ≤ P → fstF F k o = -1 ∨ ∃ q : Nat, r * 10 ^ (m + 1) ≤ q ∧ q < (r + 1) * 10 ^ (m + 1) ∧ fstF F k o = nI q := by
      intro F hF k
      induction k with
      | zero => exact fun o _ => Or.inl rfl
      | succ k ih =>
        intro o ho
        unfold fstF
        by_cases c : F o = -1
        · rw [if_pos c]
          exact ih (o + 1) (by omega)
        · rw [if_neg c]
          exact hF o (by omega)
    have hX : (if left = 0 then -1 else fstF (fun o => if o = ps ∨ noOf V (nI o) then -1 else lsR f W P n w m (ps + 1) (left - 1) (nI r * 10 + nI o) (ofV W V (nI ps) (nI o))) P 0) = -1 ∨ ∃ q : Nat, r * 10 ^ (m + 1) ≤ q ∧ q < (r + 1) * 10 ^ (m + 1) ∧ (if left = 0 then -1 else fstF (fun o => if o = ps ∨ noOf V (nI o) then -1 else lsR f W P n w m (ps + 1) (left - 1) (nI r * 10 + nI o) (ofV W V (nI ps) (nI o))) P 0) = nI q := by
      by_cases c0 : left = 0
      · exact Or.inl (if_pos c0)
      · rw [if_neg c0]
        refine hfst _ (fun o ho => ?_) P 0 (by omega)
        by_cases c : o = ps ∨ noOf V (nI o)
        · exact Or.inl (if_pos c)
        · rw [if_neg c, e10 o]
          rcases ls_row hP (f := f) (W := W) (n := n) (w := w) (m := m) (ps := ps + 1) (left := left - 1) (r := 10 * r + o) (V := ofV W V (nI ps) (nI o)) with h | ⟨q, h1, h2, h3⟩
          · exact Or.inl h
          · have := up o q (by omega) h1 h2
            exact Or.inr ⟨q, this.1, this.2, h3⟩
    show (if m + 1 < left then -1 else if (if left = 0 then -1 else fstF (fun o => if o = ps ∨ noOf V (nI o) then -1 else lsR f W P n w m (ps + 1) (left - 1) (nI r * 10 + nI o) (ofV W V (nI ps) (nI o))) P 0) = -1 then lsR f W P n w m (ps + 1) left (nI r * 10 + 9) V else (if left = 0 then -1 else fstF (fun o => if o = ps ∨ noOf V (nI o) then -1 else lsR f W P n w m (ps + 1) (left - 1) (nI r * 10 + nI o) (ofV W V (nI ps) (nI o))) P 0)) = -1 ∨ ∃ q : Nat, r * 10 ^ (m + 1) ≤ q ∧ q < (r + 1) * 10 ^ (m + 1) ∧ (if m + 1 < left then -1 else if (if left = 0 then -1 else fstF (fun o => if o = ps ∨ noOf V (nI o) then -1 else lsR f W P n w m (ps + 1) (left - 1) (nI r * 10 + nI o) (ofV W V (nI ps) (nI o))) P 0) = -1 then lsR f W P n w m (ps + 1) left (nI r * 10 + 9) V else (if left = 0 then -1 else fstF (fun o => if o = ps ∨ noOf V (nI o) then -1 else lsR f W P n w m (ps + 1) (left - 1) (nI r * 10 + nI o) (ofV W V (nI ps) (nI o))) P 0)) = nI q
    generalize (if left = 0 then (-1 : Int32) else fstF (fun o => if o = ps ∨ noOf V (nI o) then -1 else lsR f W P n w m (ps + 1) (left - 1) (nI r * 10 + nI o) (ofV W V (nI ps) (nI o))) P 0) = X at hX ⊢
    by_cases c1 : m + 1 < left
    · exact Or.inl (if_pos c1)
    · rw [if_neg c1]
      by_cases c2 : X = -1
      · rw [if_pos c2, show nI r * 10 + 9 = nI (10 * r + 9) from e10 9]
        rcases ls_row hP (f := f) (W := W) (n := n) (w := w) (m := m) (ps := ps + 1) (left := left) (r := 10 * r + 9) (V := V) with h | ⟨q, h1, h2, h3⟩
        · exact Or.inl h
        · have := up 9 q (by omega) h1 h2
          exact Or.inr ⟨q, this.1, this.2, h3⟩
      · rw [if_neg c2]
        exact hX
theorem BR.mono {N M : Nat} {b : BT} (h : BR N b) (hN : N ≤ M) : BR M b := fun x hx => by
  obtain ⟨h1, r, h2, h3⟩ := h x hx
  exact ⟨h1, r, by omega, h3⟩
end
