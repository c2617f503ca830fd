/-! ===== the law's helper: person, its throw caught ===== -/
def mL_person : MI := (yL_person, cL_person, 5, (some .int))
def tL_person : Nat → OP := fun pc => if pc < 9 then if pc < 3 then if pc < 1 then if pc = 0 then opALoad 3 1 else opBad else if pc < 2 then if pc = 1 then opPush (.int 0) 2 else opBad else if pc = 2 then opALoad 0 3 else opBad else if pc < 5 then if pc < 4 then if pc = 3 then opILoad 1 4 else opBad else if pc = 4 then opILoad 2 5 else opBad else if pc < 8 then if pc = 5 then opCallV mX10_person 10 2 8 else opBad else if pc = 8 then opI2L 9 else opBad else if pc < 15 then if pc < 10 then if pc = 9 then opLAStore 10 else opBad else if pc < 13 then if pc = 10 then opGoto 17 else opBad else if pc = 13 then opAStore 4 15 else opBad else if pc < 17 then if pc < 16 then if pc = 15 then opPush (.int 1) 16 else opBad else if pc = 16 then opIRet else opBad else if pc < 18 then if pc = 17 then opPush (.int 0) 18 else opBad else if pc = 18 then opIRet else opBad
set_option maxRecDepth 20000 in
theorem TL_person : TOK mL_person tL_person := fun pc => T_if (T_if (T_if (T_lf (s_aload_n (k := 3) (by decide +kernel) rfl rfl)) (T_if (T_lf (s_iconst (n := 0) (by decide +kernel) rfl (by decide +kernel))) (T_lf (s_aload_n (k := 0) (by decide +kernel) rfl rfl)))) (T_if (T_if (T_lf (s_iload_n (k := 1) (by decide +kernel) rfl rfl)) (T_lf (s_iload_n (k := 2) (by decide +kernel) rfl rfl))) (T_if (T_lf (s_callV (by decide +kernel) rfl okX10_person (by decide) rfl (mT5 (List.mem_of_getElem? (i := 81) rfl)) (mT5 (List.mem_of_getElem? (i := 82) rfl)) (mT5 (List.mem_of_getElem? (i := 83) rfl)))) (T_lf (s_i2l (by decide +kernel) rfl))))) (T_if (T_if (T_lf (s_lastore (by decide +kernel) rfl)) (T_if (T_lf (s_goto (off := 7) (by decide +kernel) (by decide))) (T_lf (s_astore (by decide +kernel) rfl (by decide))))) (T_if (T_if (T_lf (s_iconst (n := 1) (by decide +kernel) rfl (by decide +kernel))) (T_lf (s_iret (by decide +kernel) rfl))) (T_if (T_lf (s_iconst (n := 0) (by decide +kernel) rfl (by decide +kernel))) (T_lf (s_iret (by decide +kernel) rfl)))))
section
variable {E : EV} {d : Nat} {G G' : GD} {I I' : IM} {P : Program} {e : Env} {R : Room} {s : State} {m : MethodId} {args : Array Value} {below : List Frame} {meth : Method} {c : Code} {H : Heap} {locs : List Loc} {cells slots pc : Nat} {ls : Array Slot} {Qw : State → Prop}
def wsLp : List Cond := .codeWith yL_person cL_person 5 (some .int) [(0, 10, 13, 13)] :: lw_g
def CtL (E : EV) (d : Nat) (p w : Int32) (G : GD) (I : IM) (Q : QT) : Prop := Met (eL E) yL_person wsLp (rmM d (1, 6)) (PcE E [.ref 0, .int p, .int w, .ref 338] G I) (QE E Q) 1 6 (eAA E)
theorem gC_nw {G : GD} {k n a : Nat} (h : a ≠ gN G) : gC (gNw G k n) a = gC G a := va_up_ne _ _ h
theorem gL_nw {G : GD} {k n a : Nat} (h : a ≠ gN G) : gL (gNw G k n) a = gL G a := va_up_ne _ _ h
theorem gP_nw {G : GD} {k n a : Nat} (h : a ≠ gN G) : gP (gNw G k n) a = gP G a := by
  funext j
  exact if_neg h
theorem gJ_nw {G : GD} {k n a : Nat} (h : a ≠ gN G) : gJ (gNw G k n) a = gJ G a := by
  funext j
  exact if_neg h
theorem HR.grow {H1 H2 : Heap} {st : State} (hr : HR E G I s H) (hN : gN G < 100000) (h1 : HR E G I st H1) (hle : H1.size ≤ H2.size) (hub : H2.size ≤ H1.size + 1) (hsame : ∀ q : Nat, q < H1.size → H2[q]? = H1[q]?) (hkeep : ∀ q : Nat, q < H.size → ¬ eAA E q → H2[q]? = H[q]?) : ∃ G', (G' = G ∨ G' = gNw G 60 0) ∧ HR E G' I s H2 := by
  have e1 := h1.1
  by_cases c : H2.size = H1.size
  · refine ⟨G, Or.inl rfl, by rw [c]; exact h1.1, h1.2.1, fun a ha => (h1.2.2.1 a ha).kept (hsame _ (by omega)) rfl rfl rfl rfl rfl, hr.2.2.2.1, hr.2.2.2.2.1, hr.2.2.2.2.2.step sameP.rf (State.WarmedH.refl s) hkeep⟩
  · refine ⟨gNw G 60 0, Or.inr rfl, by show H2.size = eB E + (gN G + 1); omega, by show gN G + 1 ≤ 100000; omega, fun a ha => ?_, hr.2.2.2.1, fun i hi => ?_, hr.2.2.2.2.2.step sameP.rf (State.WarmedH.refl s) hkeep⟩
    · have ha' : a < gN G + 1 := ha
      by_cases ea : a = gN G
      · have hk : gC (gNw G 60 0) a = 60 := by
          rw [ea]
          exact (gNw_at 60 0).1
        refine ⟨fun z => ?_, fun z => ?_⟩
        · rw [hk] at z; omega
        · rw [hk] at z; omega
      · exact (h1.2.2.1 a (by omega)).kept (hsame _ (by omega)) (gC_nw ea) (gL_nw ea) (gP_nw ea) (gJ_nw ea) rfl
    · have hi' : i ≠ gN G := by omega
      obtain ⟨g0, g1, g2, g3⟩ := hr.2.2.2.2.1 i hi
      exact ⟨(gC_nw hi').trans g0, (gL_nw hi').trans g1, (gP_nw hi').trans g2, g3⟩
theorem CX.ofL {l : Launch} {bc : Room} {S : Spec} {s₁ : State} (B : BodyLoose P l yL_person (headSpec wsLp bc) cL_person 5 (some .int) e s m args below meth c s₁) (hml : c.maxLocals = 5) : CX mL_person P s m args meth c :=
  ⟨B.exec, B.bytes, B.returns, hml, findClass_of_methodNamed B.named, fun w hw => atoms_spec (ws := wsLp) B.pre w (List.mem_cons_of_mem _ hw), B.notSynchronized, fun hn => by rw [← hn]; exact (name_of_methodNamed B.named B.method).1⟩
theorem lt_x3 : Cond.castable "java/util/NoSuchElementException" "java/util/NoSuchElementException" ∈ lw_n := by decide +kernel
set_option maxRecDepth 100000 in
set_option maxHeartbeats 4000000 in
theorem l_person_ok (hG : GTs G) (p w : Int32) {v : Int32} (hrun : Run E d mX10_person [.ref 0, .int p, .int w] (0, 0) G I (some (.int v)) G I) : CtL E (d + 1) p w G I (fun a b z => a = some (.int 0) ∧ b = gpJ G 338 0 v.toInt64 ∧ z = I) := by
  have hex : Ex E (d + 1) mL_person (fun a b z => a = some (.int 0) ∧ b = gpJ G 338 0 v.toInt64 ∧ z = I) 0 [some (.ref 0), some (.int p), some (.int w), some (.ref 338), none] [] (1, 6) G I := by
    refine Ex.run TL_person [] 40 ?_
    simp only [↓tL_person, ↓opPush, ↓opILoad, ↓opLLoad, ↓opALoad, ↓opIStore, ↓opAStore, ↓opLStore, ↓opIInc, ↓opI1, ↓opII, ↓opID, ↓opLL, ↓opLD, ↓opLI, ↓opI2L, ↓opL2I, ↓opLcmp, ↓opDup, ↓opDupX1, ↓opDup2, ↓opPop, ↓opIf1, ↓opIf2, ↓opGoto, ↓opIRet, ↓opZRet, ↓opLRet, ↓opVRet, ↓opGetI, ↓opGetL, ↓opGetR, ↓opPutI, ↓opPutZ, ↓opPutL, ↓opPutR, ↓opIALoad, ↓opBALoad, ↓opZALoad, ↓opLALoad, ↓opAALoad, ↓opIAStore, ↓opZAStore, ↓opLAStore, ↓opALen, ↓opGetS, ↓opGetC, ↓opStrV, ↓opStrC, ↓opCallV, ↓opCallS, ↓opSw, ↓opCopy, ↓opCallT, ↓opBRet, ↓opObjI, ↓opNew, ↓opNewA, ↓opANew, ↓opAAStore, ↓opMNew, ↓opCallI, ↓wp_s, ↓wp_0, ↓popI_c, ↓popL_c, ↓popR_c, ↓pop1_i, ↓pop1_r, ↓ldI_0, ↓ldI_s, ↓ldL_0, ↓ldL_s, ↓ldR_0, ↓ldR_s, ↓stL_0, ↓stL_s, ↓tk_0, ↓tk_s, ↓Kc_s, ↓Kc_n, isS_0, isS_s, asP_c, gi_0, gi_s, noL_0, noL_s, isW_n, isW_i, isW_r, rcv_c, rcvT_c, swK_0, swK_s, catS, or_false, false_or, not_false_eq_true, not_true_eq_false, true_implies, false_implies, and_true, true_and, ↓reduceIte, Nat.reduceAdd, Nat.reduceLT, Nat.reduceLeDiff, Nat.reduceEqDiff, Nat.reduceSub, forall_const, eq_self, and_self, or_true, true_or, hG.o 0 10 rfl rfl]
    refine ⟨_, _, _, _, rfl, hrun, ?_⟩
    simp only [↓tL_person, ↓opPush, ↓opILoad, ↓opLLoad, ↓opALoad, ↓opIStore, ↓opAStore, ↓opLStore, ↓opIInc, ↓opI1, ↓opII, ↓opID, ↓opLL, ↓opLD, ↓opLI, ↓opI2L, ↓opL2I, ↓opLcmp, ↓opDup, ↓opDupX1, ↓opDup2, ↓opPop, ↓opIf1, ↓opIf2, ↓opGoto, ↓opIRet, ↓opZRet, ↓opLRet, ↓opVRet, ↓opGetI, ↓opGetL, ↓opGetR, ↓opPutI, ↓opPutZ, ↓opPutL, ↓opPutR, ↓opIALoad, ↓opBALoad, ↓opZALoad, ↓opLALoad, ↓opAALoad, ↓opIAStore, ↓opZAStore, ↓opLAStore, ↓opALen, ↓opGetS, ↓opGetC, ↓opStrV, ↓opStrC, ↓opCallV, ↓opCallS, ↓opSw, ↓opCopy, ↓opCallT, ↓opBRet, ↓opObjI, ↓opNew, ↓opNewA, ↓opANew, ↓opAAStore, ↓opMNew, ↓opCallI, ↓wp_s, ↓wp_0, ↓popI_c, ↓popL_c, ↓popR_c, ↓pop1_i, ↓pop1_r, ↓ldI_0, ↓ldI_s, ↓ldL_0, ↓ldL_s, ↓ldR_0, ↓ldR_s, ↓stL_0, ↓stL_s, ↓tk_0, ↓tk_s, ↓Kc_s, ↓Kc_n, isS_0, isS_s, asP_c, gi_0, gi_s, noL_0, noL_s, isW_n, isW_i, isW_r, rcv_c, rcvT_c, swK_0, swK_s, catS, or_false, false_or, not_false_eq_true, not_true_eq_false, true_implies, false_implies, and_true, true_and, ↓reduceIte, Nat.reduceAdd, Nat.reduceLT, Nat.reduceLeDiff, Nat.reduceEqDiff, Nat.reduceSub, forall_const, eq_self, and_self, or_true, true_or, hG.o 338 101 rfl rfl, hG.l 338 1 rfl rfl, vpL (i := 0) (n := 1) (by decide), show (0 : Int32).toNatClampNeg = 0 by decide]
  refine va_MetW (cc := cL_person) (maxL := 5) (ret := some .int) (hh := [(0, 10, 13, 13)]) (by decide +kernel) rfl ?_
  intro P e s m args below meth c s₁ B hml hv
  obtain ⟨rfl, hr⟩ := hv
  have C := CX.ofL (S := headSpec wsLp (rmM (d + 1) (1, 6))) B hml
  rw [lg_entry_eq]
  have hls := lv_entry (([.ref 0, .int p, .int w, .ref 338] : List Value).map (tr E)) (n := 5) (by rw [wds_eq]; exact Nat.le_succ 4)
  refine hex P e _ s m _ below meth c s.heap [] 0 0 1 6 _ C hr va_S.rf (by rw [hr.1]; exact Nat.le_add_right _ _) (Nat.le_refl _) (Nat.le_refl _) (by omega) (by omega) (Nat.le_refl _) (Nat.le_refl _) ⟨hls.1, hls.2.1, fun i v hv => ?_⟩
  have := lve_in E [.ref 0, .int p, .int w, .ref 338] 5 0 i v hv
  rw [Nat.zero_add] at this
  exact hls.2.2 _ this
set_option maxRecDepth 100000 in
set_option maxHeartbeats 4000000 in
theorem l_person_thr (hG : GTs G) (hN : gN G < 100000) (p w : Int32) (hthr : Thr E d p w G I) : CtL E (d + 1) p w G I (fun a b z => a = some (.int 1) ∧ (b = G ∨ b = gNw G 60 0) ∧ z = I) := by
  have hex : ∀ G', (G' = G ∨ G' = gNw G 60 0) → Ex E (d + 1) mL_person (fun a b z => a = some (.int 1) ∧ (b = G ∨ b = gNw G 60 0) ∧ z = I) 15 [] [] (0, 0) G' I := fun G' hG' => by
    refine Ex.run TL_person [] 40 ?_
    simp only [↓tL_person, ↓opPush, ↓opILoad, ↓opLLoad, ↓opALoad, ↓opIStore, ↓opAStore, ↓opLStore, ↓opIInc, ↓opI1, ↓opII, ↓opID, ↓opLL, ↓opLD, ↓opLI, ↓opI2L, ↓opL2I, ↓opLcmp, ↓opDup, ↓opDupX1, ↓opDup2, ↓opPop, ↓opIf1, ↓opIf2, ↓opGoto, ↓opIRet, ↓opZRet, ↓opLRet, ↓opVRet, ↓opGetI, ↓opGetL, ↓opGetR, ↓opPutI, ↓opPutZ, ↓opPutL, ↓opPutR, ↓opIALoad, ↓opBALoad, ↓opZALoad, ↓opLALoad, ↓opAALoad, ↓opIAStore, ↓opZAStore, ↓opLAStore, ↓opALen, ↓opGetS, ↓opGetC, ↓opStrV, ↓opStrC, ↓opCallV, ↓opCallS, ↓opSw, ↓opCopy, ↓opCallT, ↓opBRet, ↓opObjI, ↓opNew, ↓opNewA, ↓opANew, ↓opAAStore, ↓opMNew, ↓opCallI, ↓wp_s, ↓wp_0, ↓popI_c, ↓popL_c, ↓popR_c, ↓pop1_i, ↓pop1_r, ↓ldI_0, ↓ldI_s, ↓ldL_0, ↓ldL_s, ↓ldR_0, ↓ldR_s, ↓stL_0, ↓stL_s, ↓tk_0, ↓tk_s, ↓Kc_s, ↓Kc_n, isS_0, isS_s, asP_c, gi_0, gi_s, noL_0, noL_s, isW_n, isW_i, isW_r, rcv_c, rcvT_c, swK_0, swK_s, catS, or_false, false_or, not_false_eq_true, not_true_eq_false, true_implies, false_implies, and_true, true_and, ↓reduceIte, Nat.reduceAdd, Nat.reduceLT, Nat.reduceLeDiff, Nat.reduceEqDiff, Nat.reduceSub, forall_const, eq_self, and_self, or_true, true_or]
    exact hG'
  refine va_MetW (cc := cL_person) (maxL := 5) (ret := some .int) (hh := [(0, 10, 13, 13)]) (by decide +kernel) rfl ?_
  intro P e s m args below meth c s₁ B hml hv
  obtain ⟨rfl, hr⟩ := hv
  have C := CX.ofL (S := headSpec wsLp (rmM (d + 1) (1, 6))) B hml
  have htab := vx_table (x := yL_person) B (atoms_spec (ws := wsLp) B.pre _ List.mem_cons_self)
  rw [lg_entry_eq]
  have hls := lv_entry (([.ref 0, .int p, .int w, .ref 338] : List Value).map (tr E)) (n := 5) (by rw [wds_eq]; exact Nat.le_succ 4)
  have l0 := hls.2.2 _ (lve_in E [.ref 0, .int p, .int w, .ref 338] 5 0 0 (.ref 0) rfl)
  have l1 := hls.2.2 _ (lve_in E [.ref 0, .int p, .int w, .ref 338] 5 0 1 (.int p) rfl)
  have l2 := hls.2.2 _ (lve_in E [.ref 0, .int p, .int w, .ref 338] 5 0 2 (.int w) rfl)
  have l3 := hls.2.2 _ (lve_in E [.ref 0, .int p, .int w, .ref 338] 5 0 3 (.ref 338) rfl)
  have hrm : (headSpec wsLp (rmM (d + 1) (1, 6))).room = rmM (d + 1) (1, 6) := rfl
  rw [hrm]
  refine lv_aload_n (i := 3) (x := ad E 338) C.1 C.2.1 (by decide +kernel : decode cL_person 0 = .ok (.aload_n 3, 1)) rfl l3 ?_
  refine lv_iconst (v := 0) C.1 C.2.1 (by decide +kernel : decode cL_person 1 = .ok (.iconst 0, 1)) (by decide) ?_
  refine lv_aload_n (i := 0) (x := ad E 0) C.1 C.2.1 (by decide +kernel : decode cL_person 2 = .ok (.aload_n 0, 1)) rfl l0 ?_
  refine lv_iload_n (i := 1) (x := p) C.1 C.2.1 (by decide +kernel : decode cL_person 3 = .ok (.iload_n 1, 1)) rfl l1 ?_
  refine lv_iload_n (i := 2) (x := w) C.1 C.2.1 (by decide +kernel : decode cL_person 4 = .ok (.iload_n 2, 1)) rfl l2 ?_
  obtain ⟨ha, hca⟩ := hG.o 0 10 rfl rfl
  obtain ⟨cell, q1, q2, q3, q4⟩ := (hr.2.2.1 0 ha).1 (by rw [hca]; decide)
  rw [hca] at q2
  obtain ⟨-, hfc, -⟩ := hr.K.1 _ _ (cl_at (c := 10) (by decide))
  have hgood := wsM_good (own := RL) (idx := 7) (k := 10) okX10_person rfl (mT5 (List.mem_of_getElem? (i := 81) rfl)) (mT5 (List.mem_of_getElem? (i := 82) rfl)) (mT5 (List.mem_of_getElem? (i := 83) rfl))
  have hcw : CallW (rmM (d + 1) (1, 6)) s (([.ref 0, .int p, .int w, .ref 338] : List Value).map (tr E)).toArray RL (RR 10) 7 yX10_person cX10_person 3 (some .int) (wsM mX10_person) (rmM d (1, 6)) 1 6 2 :=
    cwV (Ts := lw_g) (C := RR 10) 2 C.2.2.2.2.2.1 hgood rfl rfl rfl ⟨rfl, okX10_person.2.2.1⟩ ⟨Nat.le_refl _, by show 8 + (3 + 11) + 64 * d ≤ 64 * (d + 1); omega⟩
  intro T hT X
  rcases vx_runV (rest := [.int 0, .ref (ad E 338)]) (As := [.int p, .int w]) (b := ad E 0) ⟨C.1, C.2.1, C.2.2.2.1, C.2.2.2.2.1, C.2.2.2.2.2.1⟩ hthr hcw ⟨PcE.blind, ⟨cell, by rw [ad_own hr ha]; exact q1, by rw [q3]; rfl, by rw [q2]; exact hfc⟩, fun U hU hW => ⟨rfl, by rw [hU]; exact hr.moved hW⟩⟩ rfl rfl hls.1 rfl (lv_room (by show 1 + (1 + 0) ≤ 8; decide)) (by decide +kernel : decode cL_person 5 = .ok (.invokevirtual 7, 3)) ⟨Nat.le_refl _, Nat.le_refl _⟩ T hT X with ⟨v, st₀, t, T', L, h0, X', hL, e1, e2, hF, st⟩ | ⟨q, st₀, t, T', L, En, ce, h0, X', hL, e1, e2, hx, hce, hcv, hcl, st⟩
  · exact hF.elim
  · obtain ⟨rfl, H1, hr1, z1, z2, z3, z4⟩ := hx
    have hsz := X'.heapSize
    have s1 := hr1.1
    have s2 := hr.1
    rw [h0] at z1 z2
    have hkeep : ∀ q : Nat, q < s.heap.size → ¬ eAA E q → t.heap[q]? = s.heap[q]? := fun q g1 g2 => (z4 q (by omega)).trans (z2 q g1 g2)
    obtain ⟨G', hG', hr'⟩ := hr.grow hN hr1 z3 (by rw [e1] at hsz; omega) z4 hkeep
    have hn : (Cond.castable "java/util/NoSuchElementException" "java/util/NoSuchElementException").before (([.ref 0, .int p, .int w, .ref 338] : List Value).map (tr E)).toArray s = true := va_Nw.use rfl (hr.2.2.2.2.2.2.2.2.2.2.2.2.2.1 _ lt_x3)
    have hk := vx_catch (Q := MQ below (QE E (fun a b z => a = some (.int 1) ∧ (b = G ∨ b = gNw G 60 0) ∧ z = I)) (([.ref 0, .int p, .int w, .ref 338] : List Value).map (tr E)).toArray s 1 6 (eAA E)) (ls := (lg_sl (([.ref 0, .int p, .int w, .ref 338] : List Value).map (tr E)) ++ List.replicate (5 - (lg_sl (([.ref 0, .int p, .int w, .ref 338] : List Value).map (tr E))).length) Slot.unset).toArray) (rest := [.int 0, .ref (ad E 338)]) (pc := 5) (R := rmM (d + 1) (1, 6)) (p := P) (l := eL E) (e := e) (below := below) (meth := meth) (locs := [] ++ L) (cells := 0 + 1) (slots := 0 + 6) (own := RL) (name := "java/util/NoSuchElementException") C.2.2.2.2.1 [] ⟨0, 10, 13, 13⟩ [] htab (fun z hz => nomatch hz) (by decide) (by decide) (C.2.2.2.2.2.1 _ (inG (mT5 (List.mem_of_getElem? (i := 80) rfl)) rfl)) hn hce hcv hcl
      (lv_astore C.1 C.2.1 (by decide +kernel : decode cL_person 13 = .ok (.astore 4, 2)) hls (by decide) rfl (fun ls' hl' => hex G' hG' P e _ s m _ below meth c t.heap ([] ++ L) (0 + 1) (0 + 6) 1 6 ls' C hr' ⟨by omega, hkeep, fun q hq => hL q (by simpa using hq)⟩ (by omega) (Nat.le_refl _) (Nat.le_refl _) (Nat.le_refl _) (Nat.le_refl _) (Nat.le_refl _) (Nat.le_refl _) ⟨hl'.1, hl'.2.1, fun i v hv => by rw [gi_nil] at hv; cases hv⟩))
    obtain ⟨t2, a1, b1⟩ := hk T' e1 X'
    exact ⟨t2, st.trans a1, b1⟩
end
