/-! ===== the law's start ===== -/
def R_law : String := "GrudgeTownLaw"
def lw_P (b : Addr) (xs : List Int32) (args : Array Value) (s : State) : Prop := args = #[.ref b] ∧ s.IntsAt b xs ∧ xs.length ≤ 3072 ∧ (Jvm.Cond.and given_1 narrow_1).before args s = true
def lw_Q (_ : Array Value) (s : State) (o : Outcome) (t : State) : Prop := o = .returned (some (.int 1)) ∧ Framed s o t [] 601024 7293034
def lw_Z (below : List Frame) (a : Array Value) (s : State) : State → Prop := fun t => ∃ o, t.status = .running ∧ Ended t below o ∧ lw_Q a s o t
/-- the law's own end, with 1 on the stack, nothing written that was there before, its room as the claim has it -/
theorem lw_ret {p : Program} {l : Launch} {e : Env} {s : State} {m : MethodId} {below : List Frame} {meth : Method} {c : Code} {b : Nat} (hx : p.tables.exec = Jvm.exec) (hb : c.code = code) (hr : meth.sig.returnType = ret) (hlocks : meth.locks = false) {pc : Nat} {H : Heap} {ls : Array Slot} (hdg : decode code pc = .ok (.ireturn, 1)) : W p l e room_1 s m #[Value.ref b] below meth c H [] 601024 7293034 (lw_Z below #[Value.ref b] s) (F0 m pc ls [.int 1]) := by
  intro T hT X
  obtain ⟨fs, hret, hrun, hended, hW, hframe⟩ := X.leave (v := some (.int 1)) (hlocks := hlocks) (fun h => by rw [hr] at h; cases h)
  have hmeth' : T.vm.method? m = some meth := X.method'
  refine ⟨T.setFrames fs, ?_, .returned (some (.int 1)), hrun, hended, rfl, ⟨_, rfl⟩, hW, hframe⟩
  jvm_step X.here [X.here.top, hx, hb, hdg, hmeth', hr, ret, narrow_b1]
  (try refine ⟨rfl, ?_⟩); (try refine ⟨rfl, ?_⟩)
  first | (intro acts; rw [hret _ acts rfl rfl rfl]) | rw [hret _ _ rfl rfl rfl]
  exact Steps.refl _
/-- what holds at the law's entry: the machine, the code, the tables' words (any of lw_tbl by 'hts w (by decide +kernel)'), the script of L ints xs at the cell b, what the Statement gives of the start (any of its parts by flat_of_before) -/
def lw_At (p : Program) (s : State) (m : MethodId) (meth : Method) (c : Code) (b L : Nat) (xs : Nat → Int32) : Prop :=
  p.tables.exec = Jvm.exec ∧ c.code = code ∧ meth.sig.returnType = ret ∧ c.maxLocals = 7 ∧ s.vm.findClass R_law = some m.cls ∧ (∀ w ∈ lw_tbl, w.before #[Value.ref b] s = true) ∧ va_X b L xs s s.heap ∧ b < s.heap.size ∧ meth.locks = false ∧ (Jvm.Cond.and given_1 narrow_1).before #[Value.ref b] s = true
set_option maxRecDepth 100000 in
set_option maxHeartbeats 4000000 in
theorem l_Z {p : Program} {l : Launch} {e : Env} {s : State} {m : MethodId} {below : List Frame} {meth : Method} {c : Code} {H : Heap} {b : Nat} {E : EV} {g : JFrame} {Q : QT} (hE : eB E = s.heap.size) (hQ : ∀ r G I, Q r G I → r = some (.int 1)) (h : W p l e room_1 s m #[Value.ref b] below meth c H [] 0 0 (MQ below (QE E Q) #[Value.ref b] s 852 26477 (eAA E)) g) : W p l e room_1 s m #[Value.ref b] below meth c H [] 0 0 (lw_Z below #[Value.ref b] s) g := by
  intro T hT X
  obtain ⟨t, st, o, a1, a2, ⟨⟨r, G', I', a3, a4, a5⟩, a6⟩, L, ⟨a7, a8, a9⟩, a10⟩ := h T hT X
  have hr := hQ _ _ _ a4
  subst hr
  refine ⟨t, st, o, a1, a2, a3, a7, a8, (a9.weaken (fun y hy hlt => ?_) (Nat.le_refl _) (Nat.le_refl _)).mono (by decide) (by decide)⟩
  have := a10 y hy
  unfold eAA at this
  rw [hE] at this
  exact absurd hlt (Nat.not_lt.mpr this)
set_option maxRecDepth 100000 in
set_option maxHeartbeats 4000000 in
theorem whole_start {p : Program} {e : Env} {s : State} {m : MethodId} {below : List Frame} {meth : Method} {c : Code} (l : Launch) (hflags : l.flags = flags0) {b L : Nat} {xs : Nat → Int32} (hL : L ≤ 3072) (C0 : lw_At p s m meth c b L xs) : W p l e room_1 s m #[Value.ref b] below meth c s.heap [] 0 0 (lw_Z below #[Value.ref b] s) (entryFrame m ([Value.ref b] : List Value).toArray 7) := by
  obtain ⟨hx, hb, hr, hml, hown, hts, hX, hbl, hlk, hgv⟩ := C0
  have fl := flat_of_before _ hgv
  have hA : ∀ a : Nat, a < s.heap.size → ¬ s.heap.size ≤ a := fun a ha z => absurd z (by omega)
  have w9 := hts (.initialized RX9) (by decide +kernel)
  obtain ⟨t1, a1, z1⟩ := given_S (n := "RULE_LEAST") (N := 2) (f := gvI 100001) (by decide) (hts _ (by decide +kernel)) w9 (fl _ (by decide +kernel)) (fl _ (by decide +kernel)) (fun j hj => by rcases (show j = 0 ∨ j = 1 by omega) with rfl | rfl <;> exact fl _ (by decide +kernel))
  obtain ⟨t2, a2, z2⟩ := given_S (n := "RULE_MOST") (N := 2) (f := gvI 100002) (by decide) (hts _ (by decide +kernel)) w9 (fl _ (by decide +kernel)) (fl _ (by decide +kernel)) (fun j hj => by rcases (show j = 0 ∨ j = 1 by omega) with rfl | rfl <;> exact fl _ (by decide +kernel))
  obtain ⟨t3, a3, z3⟩ := given_S (n := "PERSON_LEAST") (N := 2) (f := gvI 100003) (by decide) (hts _ (by decide +kernel)) w9 (fl _ (by decide +kernel)) (fl _ (by decide +kernel)) (fun j hj => by rcases (show j = 0 ∨ j = 1 by omega) with rfl | rfl <;> exact fl _ (by decide +kernel))
  obtain ⟨t4, a4, z4⟩ := given_S (n := "PERSON_MOST") (N := 2) (f := gvI 100004) (by decide) (hts _ (by decide +kernel)) w9 (fl _ (by decide +kernel)) (fl _ (by decide +kernel)) (fun j hj => by rcases (show j = 0 ∨ j = 1 by omega) with rfl | rfl <;> exact fl _ (by decide +kernel))
  obtain ⟨t5, a5, z5⟩ := given_S (n := "GRUDGE_LEAST") (N := 4) (f := gvI 100005) (by decide) (hts _ (by decide +kernel)) w9 (fl _ (by decide +kernel)) (fl _ (by decide +kernel)) (fun j hj => by rcases (show j = 0 ∨ j = 1 ∨ j = 2 ∨ j = 3 by omega) with rfl | rfl | rfl | rfl <;> exact fl _ (by decide +kernel))
  obtain ⟨t6, a6, z6⟩ := given_S (n := "GRUDGE_MOST") (N := 4) (f := gvI 100006) (by decide) (hts _ (by decide +kernel)) w9 (fl _ (by decide +kernel)) (fl _ (by decide +kernel)) (fun j hj => by rcases (show j = 0 ∨ j = 1 ∨ j = 2 ∨ j = 3 by omega) with rfl | rfl | rfl | rfl <;> exact fl _ (by decide +kernel))
  obtain ⟨q7, y7, e7, r7, o7, c7, v7, b7⟩ := given_T (own := RX9) (k := 25) (tx := "oawk") (N := 4) (f := gvI 100013) (by decide) (hts _ (by decide +kernel)) (fl _ (by decide +kernel)) (fl _ (by decide +kernel)) (fl _ (by decide +kernel)) (fl _ (by decide +kernel)) (fun j hj => by rcases (show j = 0 ∨ j = 1 ∨ j = 2 ∨ j = 3 by omega) with rfl | rfl | rfl | rfl <;> exact fl _ (by decide +kernel))
  obtain ⟨q8, y8, e8, r8, o8, c8, v8, b8⟩ := given_T (own := RX9) (k := 106) (tx := "fk") (N := 2) (f := gvI 100014) (by decide) (hts _ (by decide +kernel)) (fl _ (by decide +kernel)) (fl _ (by decide +kernel)) (fl _ (by decide +kernel)) (fl _ (by decide +kernel)) (fun j hj => by rcases (show j = 0 ∨ j = 1 by omega) with rfl | rfl <;> exact fl _ (by decide +kernel))
  obtain ⟨q9, y9, e9, r9, o9, c9, v9, b9⟩ := given_T (own := RX9) (k := 118) (tx := "tl") (N := 2) (f := gvI 100015) (by decide) (hts _ (by decide +kernel)) (fl _ (by decide +kernel)) (fl _ (by decide +kernel)) (fl _ (by decide +kernel)) (fl _ (by decide +kernel)) (fun j hj => by rcases (show j = 0 ∨ j = 1 by omega) with rfl | rfl <;> exact fl _ (by decide +kernel))
  obtain ⟨q10, y10, e10, r10, o10, c10, v10, b10⟩ := given_T (own := RX2) (k := 22) (tx := "tlnmsd") (N := 6) (f := gvI 100016) (by decide) (hts _ (by decide +kernel)) (fl _ (by decide +kernel)) (fl _ (by decide +kernel)) (fl _ (by decide +kernel)) (fl _ (by decide +kernel)) (fun j hj => by rcases (show j = 0 ∨ j = 1 ∨ j = 2 ∨ j = 3 ∨ j = 4 ∨ j = 5 by omega) with rfl | rfl | rfl | rfl | rfl | rfl <;> exact fl _ (by decide +kernel))
  have r10' : vk_R RX1 85 "tlnmsd" q10 s := by
    obtain ⟨w, h1, h2⟩ := Cond.eq_one (fl (.eq (.string RX2 22) (.string RX1 85)) (by decide +kernel))
    exact vk_R.of (hts (.stringRef RX1 85 "tlnmsd") (by decide +kernel)) (h2.trans (h1.symm.trans e10))
  obtain ⟨q11, r11⟩ := given_R (own := RX10) (k := 173) (tx := "no such person") (hts _ (by decide +kernel)) (fl _ (by decide +kernel))
  obtain ⟨q12, r12⟩ := given_R (own := RX10) (k := 196) (tx := "no such thing of a person") (hts _ (by decide +kernel)) (fl _ (by decide +kernel))
  have zc : va_Z "java/lang/String" "COMPACT_STRINGS" "Z" (.int 1) (fun q => s.heap.size ≤ q) s s.heap := va_Zof (hts _ (by decide +kernel)) (hts (.initialized "java/lang/String") (by decide +kernel)) (ev_eq (fl _ (by decide +kernel))) hA
  have zU : vx_Zq "java/lang/Throwable" "UNASSIGNED_STACK" "[Ljava/lang/StackTraceElement;" (fun q => s.heap.size ≤ q) s s.heap := vx_Zqof (hts _ (by decide +kernel)) (hts (.initialized "java/lang/Throwable") (by decide +kernel)) (fl _ (by decide +kernel)) hA
  have zN : vx_Zq "java/lang/Throwable" "SUPPRESSED_SENTINEL" "Ljava/util/List;" (fun q => s.heap.size ≤ q) s s.heap := vx_Zqof (hts _ (by decide +kernel)) (hts (.initialized "java/lang/Throwable") (by decide +kernel)) (fl _ (by decide +kernel)) hA
  obtain ⟨D, A, hK⟩ := given_K hts
  obtain ⟨E, hEq⟩ : ∃ E : EV, E = (l, D, A, s.heap.size, (fun i => [b, t1, t2, t3, t4, t5, t6, q7, q8, q9, q10, q11, q12, y7, y8, y9, y10].getD i 0), gv0 L, iv0 xs) := ⟨_, rfl⟩
  have hPG : PG E (gv0 L) (iv0 xs) s s.heap := by
    subst hEq
    have ec : ∀ j, j < 7 → gC (gv0 L) (100000 + j) = 100 := fun j hj => if_pos (show 100000 + j < 100007 by omega)
    refine ⟨fun j hj => ⟨ec j hj, ?_⟩, fun j hj => ?_, fun j hj => ?_, zc, fun j hj => ?_, fun j hj => ?_, zU, zN, fun w hw => va_tabs (u := s) (U := s) (by
      have hn := (List.mem_filter.mp hw).2
      cases w <;> first | rfl | (simp [isNest] at hn)) rfl (hts w (List.mem_filter.mp hw).1), hts (.arrayOver (.object RX6)) (mT2 (List.mem_of_getElem? (i := 26) rfl)), hts (.arrayOver (.array .int)) (mT1 (List.mem_of_getElem? (i := 214) rfl))⟩
    · rcases (show j = 0 ∨ j = 1 ∨ j = 2 ∨ j = 3 ∨ j = 4 ∨ j = 5 ∨ j = 6 by omega) with rfl | rfl | rfl | rfl | rfl | rfl | rfl
      · obtain ⟨scr, h1, h2, h3, h4, h5⟩ := hX
        exact ⟨scr, h1, h2, h3, Nat.le_of_eq h4.symm, by rw [h4]; rfl, h5, hA b hbl⟩
      · exact a1
      · exact a2
      · exact a3
      · exact a4
      · exact a5
      · exact a6
    · rcases (show j = 0 ∨ j = 1 ∨ j = 2 ∨ j = 3 by omega) with rfl | rfl | rfl | rfl
      · exact ⟨rfl, b7⟩
      · exact ⟨rfl, b8⟩
      · exact ⟨rfl, b9⟩
      · exact ⟨rfl, b10⟩
    · rcases (show j = 0 ∨ j = 1 ∨ j = 2 ∨ j = 3 ∨ j = 4 ∨ j = 5 by omega) with rfl | rfl | rfl | rfl | rfl | rfl
      · exact z1
      · exact z2
      · exact z3
      · exact z4
      · exact z5
      · exact z6
    · rcases (show j = 0 ∨ j = 1 ∨ j = 2 ∨ j = 3 by omega) with rfl | rfl | rfl | rfl
      · exact ⟨rfl, rfl, o7, c7, v7⟩
      · exact ⟨rfl, rfl, o8, c8, v8⟩
      · exact ⟨rfl, rfl, o9, c9, v9⟩
      · exact ⟨rfl, rfl, o10, c10, v10⟩
    · rcases (show j = 0 ∨ j = 1 ∨ j = 2 ∨ j = 3 ∨ j = 4 ∨ j = 5 ∨ j = 6 by omega) with rfl | rfl | rfl | rfl | rfl | rfl | rfl
      · exact r7
      · exact r8
      · exact r9
      · exact r10
      · exact r10'
      · exact r11
      · exact r12
  have hR : HR E (gv0 L) (iv0 xs) s s.heap := by
    refine ⟨by rw [hEq]; rfl, Nat.zero_le _, fun a ha => absurd ha (Nat.not_lt_zero a), by rw [hEq]; exact hK, by rw [hEq]; exact sameP.rf, ?_⟩
    rw [show eG E = gv0 L by rw [hEq]; rfl, show eI E = iv0 xs by rw [hEq]; rfl]
    exact hPG
  have hfl : (eL E).stackTraces = false := by
    rw [hEq]
    show l.stackTraces = false
    unfold Launch.stackTraces
    rw [hflags]
    decide +kernel
  have hs : SCR E L := by
    rw [hEq]
    exact ⟨rfl, rfl, hL⟩
  have hex := l_entry (E := E) (d := 0) hfl hs (G := gv0 L) (I := iv0 xs) rfl (gvn_0 L) (gvv_0 xs) (ltk_0 xs)
  have C : CX mL_law p s m #[Value.ref b] meth c := ⟨hx, hb, hr, hml, hown, fun w hw => hts w (List.mem_filter.mp hw).1, hlk, fun hn => absurd hn (by decide)⟩
  rw [lg_entry_eq]
  have hls := lv_entry ([Value.ref b] : List Value) (n := 7) (by show 1 ≤ 7; decide)
  have el : eL E = l := by rw [hEq]; rfl
  have hW := hex p e room_1 s m #[Value.ref b] below meth c s.heap [] 0 0 852 26477 _ C hR va_S.rf (by rw [hEq]; exact Nat.le_refl _) (by decide) (by decide) (by decide) (by decide) (by decide) (by decide) ⟨hls.1, hls.2.1, fun i v hv => ?_⟩
  · rw [el] at hW
    exact l_Z (by rw [hEq]; rfl) (fun r G I h => h) hW
  · match i, hv with
    | 0, hv =>
      cases hv
      have := hls.2.2 (0, Value.ref b) List.mem_cons_self
      rw [this, hEq]
      rfl
    | i + 1, hv =>
      have h7 : ∀ k, gi [none, none, none, none, none, none] k = (none : Option Value) := fun k => by
        match k with
        | 0 => rfl
        | 1 => rfl
        | 2 => rfl
        | 3 => rfl
        | 4 => rfl
        | 5 => rfl
        | k + 6 => exact gi_nil k
      exact absurd ((h7 i).symm.trans hv) (by simp)
set_option maxHeartbeats 4000000 in
theorem lw_walk (l : Launch) (hflags : l.flags = flags0) (b : Addr) (xs : List Int32) : MetFree l x (headSpec (Jvm.Cond.code x code maxLocals ret :: tables_1) room_1) (lw_P b xs) (fun _ _ _ _ _ => True) lw_Q := by
  refine MetFree.of_bodyS (code := code) (maxLocals := maxLocals) (ret := ret) (by decide) ?_ ?_
  · intro args s m h hn
    obtain ⟨meth, c, h1, h2, h3, h4, h5, h6, -, -⟩ := Cond.code_spec hn (atoms_spec (ws := Jvm.Cond.code x code maxLocals ret :: tables_1) h _ List.mem_cons_self)
    exact ⟨meth, c, h1, h2, h3, h4, h5, h6⟩
  · intro p e s m args below meth c s₁ B hml0 hP _
    obtain ⟨rfl, hx, hbd, hgv⟩ := hP
    obtain ⟨scr, harrAt, hlist, hof, hsmall⟩ := hx
    obtain ⟨hcb, hkn, -, -⟩ := State.arrayAt?_spec harrAt
    have hown : s.vm.findClass R_law = some m.cls := findClass_of_methodNamed B.named
    have hts0 : ∀ c ∈ (Jvm.Cond.code x code maxLocals ret :: tables_1), c.before #[Value.ref b] s = true := atoms_spec (ws := Jvm.Cond.code x code maxLocals ret :: tables_1) B.pre
    have hts : ∀ w ∈ lw_tbl, w.before #[Value.ref b] s = true := k2_hts_sels lw_privs (fun w hw => hts0 w (List.mem_cons_of_mem _ hw)) lw_privs_ok
    have hml : c.maxLocals = 7 := B.maxLocals_eq (hts0 _ List.mem_cons_self)
    have X₀ : Stand p l e room_1 s m #[Value.ref b] below meth c s₁ [] 0 0 := Stand.of_body B
    have hh0 : s₁.heap = s.heap := by rw [B.state]; rfl
    have hsz : scr.slots.size = xs.length := by rw [← Array.length_toList, hlist, List.length_map]
    have hval : ∀ j : Nat, j < xs.length → scr.slots[j]? = some (.int (xs.getD j 0)) := fun j hj => by
      rw [← Array.getElem?_toList, hlist]
      simp [hj]
    have hbl : b < s.heap.size := (Array.getElem?_eq_some_iff.mp hcb).1
    have hX : va_X b xs.length (fun j => xs.getD j 0) s s.heap := ⟨scr, hcb, hof, hkn, hsz, hval⟩
    have K : W p l e room_1 s m #[Value.ref b] below meth c s₁.heap [] 0 0 (lw_Z below #[Value.ref b] s) (entryFrame m ([Value.ref b] : List Value).toArray 7) := by
      rw [hh0]
      exact whole_start l hflags hbd ⟨B.exec, B.bytes, B.returns, hml, hown, hts, hX, hbl, B.notSynchronized, hgv⟩
    obtain ⟨t, a1, o, b1, b2, b3⟩ := K s₁ rfl X₀
    exact ⟨t, o, a1, b1, b2, b3⟩
theorem lw_pre_spec {args : Array Value} {s : State} (h : (Jvm.Cond.and given_1 narrow_1).before args s = true) (hr : rest_1_c.before args s = true) : ∃ (b : Addr) (xs : List Int32), lw_P b xs args s := by
  have hs := flat_of_before _ h
  have hq := flat_of_before _ hr
  have hc : (Cond.count 1).before args s = true := hs _ (by decide +kernel)
  have harr : (Cond.arrayOf (.arg 0) .int).before args s = true := hs _ (by decide +kernel)
  have hle : (Cond.le (.length (.arg 0)) (.int 3072)).before args s = true := hs _ (by decide +kernel)
  have hlen : (Cond.isInt (.length (.arg 0))).before args s = true := hq _ (by decide +kernel)
  have hall : (Cond.all (.arg 0) (.isInt (.elem (.arg 0) (.index 0)))).before args s = true := hq _ (by decide +kernel)
  obtain ⟨b, xs, hb, hx⟩ := State.ints_of_pre rfl harr hlen hall
  have hsm : xs.length < 2 ^ 31 := hx.choose_spec.2.2.2
  have hev : (Term.length (.arg 0)).eval args s none [] s = some (.int xs.length.toInt32) := hx.length_eval hb
  have hv := Cond.le_ints hev (show (Term.int 3072).eval args s none [] s = some (.int 3072) from rfl)
  have hd : xs.length.toInt32 ≤ 3072 := by
    simpa [Cond.before, Cond.holds, hv] using hle
  have hN : xs.length ≤ 3072 := (Int32.ofNat_le_ofNat hsm (by decide)).mp (show Int32.ofNat xs.length ≤ Int32.ofNat 3072 from hd)
  exact ⟨b, xs, Cond.one_arg hc (show args[0]? = some (.ref b) from hb), hx, hN, h⟩
theorem lw_comes (l : Launch) (hflags : l.flags = flags0) : Comes l x (Jvm.Cond.code x code maxLocals ret :: tables_1) room_1 (fun tb e args s => Calls_1 tb e args s ∧ rest_1 tb e args s ∧ Pre_1 tb e args s)
    (fun _ _ args s o t => lw_Q args s o t) := by
  intro p e ha hc hk s m args below hf hfit hheap happ hpre
  obtain ⟨b, xs, hP⟩ := lw_pre_spec hpre.2.2 hpre.2.1
  obtain ⟨k, o, h1, h2, h3, hQ⟩ := lw_walk l hflags b xs p e ha hc hk s m args below hf ((Spec.applies_iff_loose hf).mp happ).1 hP trivial
  exact ⟨k, o, h1, h2, h3, hQ⟩
theorem lw_frame {s t : State} {o : Outcome} {args : Array Value} (h : Framed s o t [] 601024 7293034) :
    Framed s o t (fieldLocs frame_1_writes args s ++ arrayLocs frame_1_arrays args s ++ staticLocs frame_1_statics s) 601024 7293034 := h
theorem lw_limb (L : Cond) (hL : ∀ (args : Array Value) (s t : State), L.after args s (.returned (some (.int 1))) t = true) :
    ArmFor flags0 classFile x code maxLocals ret World_1 tables_1 room_1 Calls_1 rest_1 Pre_1
      (fun tb e a s o t => postC L tb e a s o t ∧ Framed s o t (fieldLocs frame_1_writes a s ++ arrayLocs frame_1_arrays a s ++ staticLocs frame_1_statics s) 601024 7293034) := by
  intro l hflags _ _ p e ha hc hk s m args below hf hfit hheap happ hpre
  obtain ⟨k, o, h1, h2, h3, rfl, hF⟩ := lw_comes l hflags p e ha hc hk s m args below hf hfit hheap happ hpre
  exact ⟨k, _, h1, h2, h3, hL args s _, lw_frame hF⟩
theorem i_vc : Claimed_1_1 ∧ Claimed_1_2 := ⟨lw_limb limb_1_1 (fun args s t => by simp [limb_1_1, Cond.after, Cond.holds, Cond.value]), lw_limb limb_1_2 (fun args s t => Cond.after_iff.mpr (by
  first | (rw [show limb_1_2 = Cond.eq .result (.int 1) from rfl, Cond.eq_ints (x := 1) (y := 1) rfl rfl]; simp; done) | (simp [limb_1_2, Cond.value, Term.eval]; done)))⟩

