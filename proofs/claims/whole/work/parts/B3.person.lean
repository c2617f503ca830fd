/-! ===== person: the class may throw; the law's own helper catches ===== -/
section
variable {E : EV} {d : Nat} {G G' : GD} {I I' : IM} {r : Option Value} {P : Program} {e : Env} {R : Room} {s : State} {m : MethodId} {args : Array Value} {below : List Frame} {meth : Method} {c : Code} {H : Heap} {locs : List Loc} {cells slots pc : Nat} {ls : Array Slot} {Qw : State → Prop}
/-- what is so where person has thrown -/
def XP (E : EV) (G : GD) (I : IM) : String → State → State → Prop := fun n st t => n = "java/util/NoSuchElementException" ∧ ∃ H : Heap, HR E G I st H ∧ st.heap.size ≤ H.size ∧ (∀ q : Nat, q < st.heap.size → ¬ eAA E q → H[q]? = st.heap[q]?) ∧ H.size ≤ t.heap.size ∧ ∀ q : Nat, q < H.size → t.heap[q]? = H[q]?
def Thr (E : EV) (d : Nat) (p w : Int32) (G : GD) (I : IM) : Prop := vx_Met (eL E) yX10_person (wsM mX10_person) (rmM d (1, 6)) (PcE E [.ref 0, .int p, .int w] G I) (fun _ _ _ _ => False) (XP E G I) 1 6 (eAA E)
theorem W_call {st rest : List Value} {av : Array Value}
    (f : va_Run P (eL E) e R s m args below meth c H locs cells slots 0 0 (F0 m pc ls st) rest (QE E (fun a b z => a = r ∧ b = G' ∧ z = I') av) (eAA E)) (hr : HR E G I s H) (hS : va_S (eAA E) s.heap H locs)
    (h : ∀ H' locs', HR E G' I' s H' → va_S (eAA E) s.heap H' locs' → W P (eL E) e R s m args below meth c H' locs' cells slots Qw (F0 m (pc + 3) ls ((r.map (tr E)).toList ++ rest))) : W P (eL E) e R s m args below meth c H locs cells slots Qw (F0 m pc ls st) := by
  intro T hT X
  obtain ⟨v, st₀, t, T', L, h0, X', hLL, e1, e2, ⟨⟨r', G1, I1, hv, ⟨rfl, rfl, rfl⟩, hr'⟩, hz, hk⟩, stp⟩ := f T hT X
  cases hv
  rw [h0] at hz hk
  have hS' : va_S (eAA E) s.heap t.heap (locs ++ L) := ⟨Nat.le_trans hS.1 hz, fun q g1 g2 => by rw [hk q (Nat.lt_of_lt_of_le g1 hS.1) g2]; exact hS.2.1 q g1 g2, fun q hq => by
    rcases List.mem_append.mp hq with g | g
    · exact hS.2.2 q g
    · exact hLL q g⟩
  obtain ⟨t2, a1, b1⟩ := h t.heap (locs ++ L) (hr.back hr' hk) hS' T' e1 X'
  exact ⟨t2, stp t2 a1, b1⟩
theorem wsM_good {M' : MI} {na : Nat} {own : String} {idx k : Nat} (hm : MOK M' na) (hcl : (mY M').cls = RR k) (hw1 : Cond.methodLink own idx (mY M') ∈ lw_tbl) (hw2 : Cond.instanceMethod (mY M') ∈ lw_tbl) (hw3 : Cond.selects (RR k) (mY M') (mY M') ∈ lw_tbl) : GoodIn lw_g (wsV own idx (RR k) (mY M') (wsM M')) := fun w hw => by
  unfold wsV at hw
  rcases List.mem_append.mp hw with hw | hw
  · simp only [List.mem_cons, List.not_mem_nil, or_false] at hw
    rcases hw with rfl | rfl | rfl | rfl
    · exact lw_goodIn _ (inG hw1 rfl)
    · exact lw_goodIn _ (inG hw2 rfl)
    · exact lw_goodIn _ (inG hw3 rfl)
    · exact lw_goodIn _ (by rw [← hcl]; exact inG hm.2.1 rfl)
  · exact hm.ws w hw
theorem vrun {M M' : MI} {a k na idx : Nat} {As rest : List Value} (C : CX M P s m args meth c) (hr : HR E G I s H) (hl : ls.size = mX M) (hF : d + 1 ≤ R.frames) (hL : 64 * d + 64 ≤ R.locals) (hcs : cells + 0 ≤ R.cells ∧ slots + 0 ≤ R.slots)
    (hd : decode (mB M) pc = .ok (.invokevirtual idx, 3)) (hm : MOK M' na) (hc : k < 12) (hcl : (mY M').cls = RR k) (hw1 : Cond.methodLink (mY M).cls idx (mY M') ∈ lw_tbl) (hw2 : Cond.instanceMethod (mY M') ∈ lw_tbl) (hw3 : Cond.selects (RR k) (mY M') (mY M') ∈ lw_tbl)
    (ha : okO G a k) (hAs : As.length = na) (hcat : catS rest ≤ 8) (hrun : Run E d M' (.ref a :: As) (0, 0) G I r G' I') {st : List Value} (hst : st = ((As.reverse ++ .ref a :: rest).map (tr E))) :
    va_Run P (eL E) e R s m args below meth c H locs cells slots 0 0 (F0 m pc ls st) (rest.map (tr E)) (QE E (fun a b z => a = r ∧ b = G' ∧ z = I') ((Value.ref a :: As).map (tr E)).toArray) (eAA E) := by
  have hG := wsM_good hm hcl hw1 hw2 hw3
  obtain ⟨ha, hca⟩ := ha
  have hcell := (hr.2.2.1 a ha).1 (by rw [hca]; exact hc)
  obtain ⟨cell, q1, q2, q3, q4⟩ := hcell
  rw [hca] at q2
  obtain ⟨-, hfc, -⟩ := hr.K.1 _ _ (cl_at hc)
  refine va_runV (As := As.map (tr E)) (b := ad E a) ⟨C.1, C.2.1, C.2.2.2.1, C.2.2.2.2.1, C.2.2.2.2.2.1⟩ hrun (cwV (Ts := lw_g) (C := RR k) na C.2.2.2.2.2.1 hG rfl rfl rfl ⟨hcl, hm.2.2.1⟩ ⟨hF, by have := hm.2.2.2.1; show 8 + (mX M' + 11) + 64 * d ≤ R.locals; omega⟩) ⟨PcE.blind, ⟨cell, by rw [ad_own hr ha]; exact q1, by rw [q3]; rfl, by rw [q2]; exact hfc⟩, fun U hU hW => ⟨rfl, by rw [hU]; exact hr.moved hW⟩⟩ rfl (by rw [List.length_map]; exact hAs) hl ?_ (lv_room (by rw [catS_eq]; exact hcat)) hd hcs
  show st = _
  rw [hst]
  simp [tr]
/-- from 'new' on, person throws -/
theorem thr_at {is j mc ms : Nat} {Qc : Array Value → State → Outcome → State → Prop} (C : CX mX10_person P s m args meth c) (htb : ∀ x ∈ c.exceptionTable.toList, False) (hfl : (eL E).stackTraces = false) (hr0 : HR E G I s s.heap) (hr : HR E G I s H) (hS : va_S (eAA E) s.heap H locs) (hls : ls.size = 3)
    (hF : 6 ≤ R.frames) (hL : 82 ≤ R.locals) (hc : cells + 1 ≤ R.cells) (hs : slots + 6 ≤ R.slots) (hj : j < 7) (hso : sown j = RX10) (hsi : sidx j = is)
    (d0 : decode cX10_person pc = .ok (.new 171, 3)) (d3 : decode cX10_person (pc + 3) = .ok (.dup, 1)) (d4 : decode cX10_person (pc + 4) = .ok (.ldc is, 2)) (d6 : decode cX10_person (pc + 6) = .ok (.invokespecial 175, 3)) (d9 : decode cX10_person (pc + 9) = .ok (.athrow, 1)) (h1 : cells + 1 ≤ mc) (h2 : slots + 6 ≤ ms) :
    W P (eL E) e R s m args below meth c H locs cells slots (vx_MQ below Qc (XP E G I) args s mc ms (eAA E)) (F0 m pc ls []) := by
  have hpg := hr0.2.2.2.2.2
  have hk := hpg.2.2.2.2.2.1 j hj
  rw [hso, hsi] at hk
  have hn : ∀ w ∈ lw_n, w.before args s = true := fun w hw => by
    have h9 := hpg.2.2.2.2.2.2.2.2.1 w hw
    refine va_Nw.use ?_ h9
    have hn := (List.mem_filter.mp hw).2
    cases w <;> first | rfl | (simp [isNest] at hn)
  exact x_throw C.1 C.2.1 hfl (text := stxt j) (is := is) (sa := ePr E (sid j)) (A := eAA E)
    C.2.2.2.2.1 (C.2.2.2.2.2.1 _ (inG (mT5 (List.mem_of_getElem? (i := 85) rfl)) rfl)) (C.2.2.2.2.2.1 _ (inG (mT1 (List.mem_of_getElem? (i := 23) rfl)) rfl)) hk
    (vx_hat (fun w hw => C.2.2.2.2.2.1 w (inG (lt_x0 w hw) (List.mem_filter.mp hw).2)) lt_x1 hn) hpg.2.2.2.2.2.2.1 hpg.2.2.2.2.2.2.2.1 hS (hls.trans C.2.2.2.1.symm)
    d0 d3 d4 d6 d9 (fun x hx => (htb x hx).elim) (by omega) (by show 0 + 82 ≤ R.locals; omega) hc hs C.2.2.2.2.2.2.1
    (fun t hal g1 g2 => ⟨rfl, H, hr, hS.1, hS.2.1, g1, g2⟩) hS.2.2 h1 h2
theorem x_person (hG : GTs G) (hfl : (eL E).stackTraces = false) (p w : Int32) (hbad : isP I p → w.toInt < 0 ∨ 5 < w.toInt) : Thr E (d + 6) p w G I := by
  refine vx_ofW (cc := cX10_person) (maxL := 3) (ret := some .int) (by decide +kernel) rfl ?_
  intro P e s m args below meth c s₁ B hml ht hv
  obtain ⟨rfl, hr⟩ := hv
  have C : CX mX10_person P s m (([.ref 0, .int p, .int w] : List Value).map (tr E)).toArray meth c := ⟨B.exec, B.bytes, B.returns, hml, findClass_of_methodNamed B.named, fun w hw => atoms_spec (ws := wsM mX10_person) B.pre w (List.mem_cons_of_mem _ hw), B.notSynchronized, fun hn => by rw [← hn]; exact (name_of_methodNamed B.named B.method).1⟩
  rw [lg_entry_eq]
  have hls := lv_entry (([.ref 0, .int p, .int w] : List Value).map (tr E)) (n := 3) (by rw [wds_eq]; exact Nat.le_refl 3)
  have l0 := hls.2.2 _ (lve_in E [.ref 0, .int p, .int w] 3 0 0 (.ref 0) rfl)
  have l1 := hls.2.2 _ (lve_in E [.ref 0, .int p, .int w] 3 0 1 (.int p) rfl)
  have l2 := hls.2.2 _ (lve_in E [.ref 0, .int p, .int w] 3 0 2 (.int w) rfl)
  have hrm : (headSpec (wsM mX10_person) (rmM (d + 6) (1, 6))).room = rmM (d + 6) (1, 6) := rfl
  rw [hrm]
  refine lv_aload_n (i := 0) (x := ad E 0) C.1 C.2.1 (by decide +kernel : decode cX10_person 0 = .ok (.aload_n 0, 1)) rfl l0 ?_
  refine lv_iload_n (i := 1) (x := p) C.1 C.2.1 (by decide +kernel : decode cX10_person 1 = .ok (.iload_n 1, 1)) rfl l1 ?_
  refine W_call (vrun (d := d) (M := mX10_person) (M' := mX10_isPerson) (a := 0) (k := 10) (As := [.int p]) (rest := []) (pc := 2) (idx := 167) C hr hls.1 (by show d + 1 ≤ d + 6; omega) (by show 64 * d + 64 ≤ 64 * (d + 6); omega) ⟨Nat.zero_le _, Nat.zero_le _⟩ (by decide +kernel) okX10_isPerson (by decide) rfl (mT4 (List.mem_of_getElem? (i := 19) rfl)) (mT4 (List.mem_of_getElem? (i := 21) rfl)) selX10_isPerson (hG.o 0 10 rfl rfl) rfl (by decide) (c_isPerson (d := d) hG p) rfl) hr va_S.rf (fun H' locs' hr' hS' => ?_)
  refine lv_if_ne (tgt := 18) (x := bInt (isP I p)) C.1 C.2.1 (by decide +kernel : decode cX10_person 5 = .ok (.ifCond .ne 13, 3)) (by decide) (fun c1 => ?_) (fun c0 => ?_)
  · have hp : isP I p := Decidable.byContradiction (fun z => c1 (bInt_f z))
    refine lv_iload_n (i := 2) (x := w) C.1 C.2.1 (by decide +kernel : decode cX10_person 18 = .ok (.iload_n 2, 1)) rfl l2 ?_
    refine lv_tableOut (tgt := 120) C.1 C.2.1 (by decide +kernel : decode cX10_person 19 = .ok (.tableswitch 101 0 5 #[37, 47, 57, 74, 83, 92], 37)) (hbad hp) (by decide) ?_
    exact thr_at (pc := 120) (j := 6) (is := 196) C ht hfl hr hr' hS' hls.1 (by show 6 ≤ d + 6; omega) (by show 82 ≤ 64 * (d + 6); omega) (Nat.le_refl 1) (Nat.le_refl 6) (by decide) rfl rfl (by decide +kernel) (by decide +kernel) (by decide +kernel) (by decide +kernel) (by decide +kernel) (Nat.le_refl _) (Nat.le_refl _)
  · exact thr_at (pc := 8) (j := 5) (is := 173) C ht hfl hr hr' hS' hls.1 (by show 6 ≤ d + 6; omega) (by show 82 ≤ 64 * (d + 6); omega) (Nat.le_refl 1) (Nat.le_refl 6) (by decide) rfl rfl (by decide +kernel) (by decide +kernel) (by decide +kernel) (by decide +kernel) (by decide +kernel) (Nat.le_refl _) (Nat.le_refl _)
end
