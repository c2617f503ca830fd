/-! ===== calls ===== -/
def wsM (M : MI) : List Cond := .code (mY M) (mB M) (mX M) (mR M) :: lw_g
def rmM (d : Nat) (bc : Nat × Nat) : Room := { frames := d, cells := bc.1, slots := bc.2, locals := 64 * d }
def PcE (E : EV) (av : List Value) (G : GD) (I : IM) : Array Value → State → Prop := fun v U => v = (av.map (tr E)).toArray ∧ HR E G I U U.heap
/-- M's contract: called with av, memory G, I, it returns with Q; bc: cells and slots that it makes -/
def Ct (E : EV) (d : Nat) (M : MI) (av : List Value) (bc : Nat × Nat) (G : GD) (I : IM) (Q : QT) : Prop := Met (eL E) (mY M) (wsM M) (rmM d bc) (PcE E av G I) (QE E Q) bc.1 bc.2 (eAA E)
def Run (E : EV) (d : Nat) (M : MI) (av : List Value) (bc : Nat × Nat) (G : GD) (I : IM) (r : Option Value) (G' : GD) (I' : IM) : Prop := Ct E d M av bc G I (fun a b c => a = r ∧ b = G' ∧ c = I')
theorem PcE.blind {E : EV} {av : List Value} {G : GD} {I : IM} : FrameBlind (PcE E av G I) := fun a U g mk h => ⟨h.1, HR.moved (s := U) (U := U.calling g mk a) h.2 (State.WarmedH.refl U)⟩
def lve : List Value → Nat → LVs
  | [], n => List.replicate n none
  | v :: r, n => match v with
    | .long x => some (.long x) :: none :: lve r (n - 2)
    | .double x => some (.double x) :: none :: lve r (n - 2)
    | w => some w :: lve r (n - 1)
def wds : List Value → Nat
  | [] => 0
  | .long _ :: r => wds r + 2
  | .double _ :: r => wds r + 2
  | _ :: r => wds r + 1
theorem wds_eq (E : EV) : ∀ av : List Value, (lg_sl (av.map (tr E))).length = wds av
  | [] => rfl
  | v :: r => by
    have ih := wds_eq E r
    unfold lg_sl at *
    rw [List.map_cons, List.flatMap_cons, List.length_append, ih]
    cases v <;> simp [tr, Value.category, wds, Nat.add_comm]
theorem lve_nil (n i : Nat) : gi (lve [] n) i = none := by
  show gi (List.replicate n none) i = none
  induction n generalizing i with
  | zero => exact gi_nil i
  | succ n ih => cases i with
    | zero => rfl
    | succ i => exact ih i
theorem lve_in (E : EV) : ∀ (av : List Value) (n k i : Nat) (v : Value), gi (lve av n) i = some v → (k + i, tr E v) ∈ lv_args k (av.map (tr E))
  | [], n, k, i, v, h => by rw [lve_nil] at h; cases h
  | w :: r, n, k, i, v, h => by
    have key1 : ∀ m, (tr E w).category = 1 → gi (some w :: lve r m) i = some v → (k + i, tr E v) ∈ lv_args k ((w :: r).map (tr E)) := by
      intro m hc h
      show _ ∈ (k, tr E w) :: lv_args _ _
      rw [if_neg (by rw [hc]; decide)]
      cases i with
      | zero => cases h; exact List.mem_cons_self
      | succ i =>
        have := lve_in E r m (k + 1) i v h
        rw [show k + (i + 1) = k + 1 + i by omega]
        exact List.mem_cons_of_mem _ this
    have key2 : ∀ m, (tr E w).category = 2 → gi (some w :: none :: lve r m) i = some v → (k + i, tr E v) ∈ lv_args k ((w :: r).map (tr E)) := by
      intro m hc h
      show _ ∈ (k, tr E w) :: lv_args _ _
      rw [if_pos hc]
      match i, h with
      | 0, h => cases h; exact List.mem_cons_self
      | 1, h => cases h
      | i + 2, h =>
        have := lve_in E r m (k + 2) i v h
        rw [show k + (i + 2) = k + 2 + i by omega]
        exact List.mem_cons_of_mem _ this
    cases w with
    | long x => exact key2 (n - 2) rfl h
    | double x => exact key2 (n - 2) rfl h
    | int x => exact key1 (n - 1) rfl h
    | float x => exact key1 (n - 1) rfl h
    | ref x => exact key1 (n - 1) rfl h
    | null => exact key1 (n - 1) rfl h
    | _ => exact key1 (n - 1) rfl h
theorem Ct.of {E : EV} {d : Nat} {M : MI} {av : List Value} {bc : Nat × Nat} {G : GD} {I : IM} {Q : QT} {lv : LVs} (hy : plainFor (mY M) = true) (hw : wds av ≤ mX M) (hl : lve av (mX M) = lv) (h : Ex E d M Q 0 lv [] bc G I) : Ct E d M av bc G I Q := by
  refine va_MetF (cc := mB M) (maxL := mX M) (ret := mR M) hy rfl ?_
  intro p e s m args below meth c s₁ B hml hv
  obtain ⟨rfl, hr⟩ := hv
  have C : CX M p s m (av.map (tr E)).toArray meth c := ⟨B.exec, B.bytes, B.returns, hml, findClass_of_methodNamed B.named, fun w hw => atoms_spec (ws := wsM M) B.pre w (List.mem_cons_of_mem _ hw), B.notSynchronized, fun hn => by rw [← hn]; exact (name_of_methodNamed B.named B.method).1⟩
  rw [lg_entry_eq]
  have hls := lv_entry (av.map (tr E)) (n := mX M) (by rw [wds_eq]; exact hw)
  refine h p e _ s m _ below meth c s.heap [] 0 0 bc.1 bc.2 _ C hr va_S.rf (by rw [hr.1]; exact Nat.le_add_right _ _) (Nat.le_refl _) (Nat.le_refl _) (by omega) (by omega) (Nat.le_refl _) (Nat.le_refl _) ⟨hls.1, hls.2.1, fun i v hv => ?_⟩
  rw [← hl] at hv
  have := lve_in E av (mX M) 0 i v hv
  rw [Nat.zero_add] at this
  exact hls.2.2 _ this
/-- the arguments off the stack -/
def tk : Nat → List Value → List Value → (List Value → List Value → Prop) → Prop
  | 0, acc, st, f => f acc st
  | n + 1, acc, v :: st, f => tk n (v :: acc) st f
  | _ + 1, _, [], _ => False
theorem tk_0 (acc st : List Value) (f : List Value → List Value → Prop) : tk 0 acc st f = f acc st := rfl
theorem tk_s (n : Nat) (v : Value) (acc st : List Value) (f : List Value → List Value → Prop) : tk (n + 1) acc (v :: st) f = tk n (v :: acc) st f := rfl
theorem tk_e : ∀ (n : Nat) (acc st : List Value) (f : List Value → List Value → Prop), tk n acc st f → ∃ bs rest, st = bs ++ rest ∧ bs.length = n ∧ f (bs.reverse ++ acc) rest
  | 0, acc, st, f, h => ⟨[], st, rfl, rfl, h⟩
  | n + 1, acc, [], f, h => h.elim
  | n + 1, acc, v :: st, f, h => by
    obtain ⟨bs, rest, h1, h2, h3⟩ := tk_e n (v :: acc) st f h
    exact ⟨v :: bs, rest, by rw [h1]; rfl, by simp [h2], by simpa using h3⟩
def catS : List Value → Nat
  | [] => 0
  | .long _ :: r => catS r + 2
  | .double _ :: r => catS r + 2
  | _ :: r => catS r + 1
theorem catS_eq (E : EV) : ∀ st : List Value, ((st.map (tr E)).map fun v => v.category).sum = catS st
  | [] => rfl
  | v :: r => by
    have ih := catS_eq E r
    simp only [List.map_cons, List.sum_cons, ih]
    cases v <;> simp [tr, Value.category, catS, Nat.add_comm]
def rcv (G : GD) (c : Nat) (av : List Value) : Prop := match av with
  | .ref a :: _ => okO G a c
  | _ => False
theorem rcv_c (G : GD) (c a : Nat) (r : List Value) : rcv G c (.ref a :: r) = okO G a c := rfl
/-- what follows a call, by what it answered -/
def Kc (K : KT) (nx : Nat) (lv : LVs) (r : Option Value) (rest : List Value) (b : Nat × Nat) (G : GD) (I : IM) : Prop := K nx lv (r.toList ++ rest) b G I
theorem Kc_s (K : KT) (nx : Nat) (lv : LVs) (v : Value) (rest : List Value) (b : Nat × Nat) (G : GD) (I : IM) : Kc K nx lv (some v) rest b G I = K nx lv (v :: rest) b G I := rfl
theorem Kc_n (K : KT) (nx : Nat) (lv : LVs) (rest : List Value) (b : Nat × Nat) (G : GD) (I : IM) : Kc K nx lv none rest b G I = K nx lv rest b G I := rfl
def opCallV (M' : MI) (c na nx : Nat) : OP := fun E d _ K lv st b G I => tk (na + 1) [] st fun av rest => rcv G c av ∧ catS rest ≤ 8 ∧ ∃ d' r G' I', d = d' + 1 ∧ Run E d' M' av (0, 0) G I r G' I' ∧ Kc K nx lv r rest b G' I'
def opCallS (M' : MI) (na nx : Nat) : OP := fun E d _ K lv st b G I => tk na [] st fun av rest => catS rest ≤ 8 ∧ ∃ d' r G' I', d = d' + 1 ∧ Run E d' M' av (0, 0) G I r G' I' ∧ Kc K nx lv r rest b G' I'
/-- a constructor: it makes bc.1 cells of bc.2 slots -/
def opCallI (M' : MI) (na nx : Nat) : OP := fun E d _ K lv st b G I => tk (na + 1) [] st fun av rest => (∃ a r, av = .ref a :: r) ∧ catS rest ≤ 8 ∧ ∃ d' bc r G' I' b', d = d' + 1 ∧ bc.1 + b'.1 ≤ b.1 ∧ bc.2 + b'.2 ≤ b.2 ∧ Run E d' M' av bc G I r G' I' ∧ Kc K nx lv r rest b' G' I'
def MOK (M' : MI) (na : Nat) : Prop := .code (mY M') (mB M') (mX M') (mR M') ∈ lw_tbl ∧ Cond.initialized (mY M').cls ∈ lw_tbl ∧ ((mY M').cls ≠ "java/lang/invoke/MethodHandle" ∧ (mY M').cls ≠ "java/lang/invoke/VarHandle" ∧ (parseMethodDescriptor (mY M').desc).map (fun d => d.parameters.length) = some na) ∧ mX M' ≤ 45 ∧ plainFor (mY M') = true
theorem MOK.ws {M' : MI} {na : Nat} (h : MOK M' na) : GoodIn lw_g (wsM M') := fun w hw => by
  rcases List.mem_cons.mp hw with rfl | hw
  · exact lw_goodIn _ (inG h.1 rfl)
  · exact lw_goodIn _ hw
section
variable {E : EV} {d : Nat} {M M' : MI} {Q : QT} {pc nx : Nat} {lv : LVs} {st : List Value} {b : Nat × Nat} {G G' : GD} {I I' : IM} {r : Option Value} {bc b' : Nat × Nat} {rest : List Value}
/-- what follows a call -/
theorem Ex.call {d' : Nat} {av : List Value} (hd : d = d' + 1) (h1 : bc.1 + b'.1 ≤ b.1) (h2 : bc.2 + b'.2 ≤ b.2)
    (f : ∀ {p : Program} {e : Env} {R : Room} {s : State} {m : MethodId} {args : Array Value} {below : List Frame} {meth : Method} {c : Code} {H : Heap} {locs : List Loc} {cells slots : Nat} {ls : Array Slot},
      CX M p s m args meth c → HR E G I s H → LV E ls (mX M) lv → (rmM d' bc).frames + 1 ≤ R.frames → (rmM d' bc).locals + 64 ≤ R.locals → cells + bc.1 ≤ R.cells ∧ slots + bc.2 ≤ R.slots →
      va_Run p (eL E) e R s m args below meth c H locs cells slots bc.1 bc.2 (F0 m pc ls (st.map (tr E))) (rest.map (tr E)) (QE E (fun a b c => a = r ∧ b = G' ∧ c = I') av.toArray) (eAA E))
    (h : Ex E d M Q (pc + 3) lv (r.toList ++ rest) b' G' I') : Ex E d M Q pc lv st b G I := by
  intro p e R s m args below meth c H locs cells slots mc ms ls C hr hS hB hF hL hc hs hmc hms hl T hT X
  subst hd
  obtain ⟨v, st₀, t, T', L, h0, X', hLL, e1, e2, ⟨⟨r', G1, I1, hv, ⟨rfl, rfl, rfl⟩, hr'⟩, hz, hk⟩, stp⟩ := f C hr hl hF (by show 64 * d' + 64 ≤ R.locals; omega) ⟨by omega, by omega⟩ T hT X
  cases hv
  rw [h0] at hz hk
  have hS' : va_S (eAA E) s.heap t.heap (locs ++ L) := ⟨Nat.le_trans hS.1 hz, fun q g1 g2 => by rw [hk q (Nat.lt_of_lt_of_le g1 hS.1) g2]; exact hS.2.1 q g1 g2, fun q hq => by
    rcases List.mem_append.mp hq with g | g
    · exact hS.2.2 q g
    · exact hLL q g⟩
  have := h p e R s m args below meth c t.heap (locs ++ L) (cells + bc.1) (slots + bc.2) mc ms ls C (hr.back hr' hk) hS' hB hF hL (by omega) (by omega) hmc hms hl T' e1 X'
  obtain ⟨t2, a1, b1⟩ := this
  refine ⟨t2, stp t2 ?_, b1⟩
  have e5 : (r'.map (tr E)).toList ++ rest.map (tr E) = (r'.toList ++ rest).map (tr E) := by
    rw [List.map_append]
    cases r' <;> rfl
  show Steps _ _ _ (T'.setTop (F0 m (pc + 3) ls ((r'.map (tr E)).toList ++ rest.map (tr E)))) t2
  rw [e5]
  exact a1
theorem rv_map {α β : Type} (f : α → β) {bs : List α} : (bs.map f) = ((bs.reverse).map f).reverse := by
  simp
theorem s_callV {idx c na : Nat} (hd : decode (mB M) pc = .ok (.invokevirtual idx, 3)) (hn : pc + 3 = nx) (hm : MOK M' na) (hc : c < 12) (hcl : (mY M').cls = RR c) (hw1 : Cond.methodLink (mY M).cls idx (mY M') ∈ lw_tbl) (hw2 : Cond.instanceMethod (mY M') ∈ lw_tbl) (hw3 : Cond.selects (RR c) (mY M') (mY M') ∈ lw_tbl) : SOp M pc (opCallV M' c na nx) := by
  subst hn
  intro E d Q K hK lv st b G I h
  obtain ⟨bs, rest, rfl, hlen, ⟨hrc, hcat, d', r, G', I', rfl, hrun, h⟩⟩ := tk_e _ _ _ _ h
  rw [List.append_nil] at hrc hrun
  cases hb : bs.reverse with
  | nil => rw [hb] at hrc; exact hrc.elim
  | cons x As =>
    rw [hb] at hrc hrun
    cases x with
    | ref a =>
      have hbs : bs = (Value.ref a :: As).reverse := by rw [← hb, List.reverse_reverse]
      have hAs : As.length = na := by
        have := congrArg List.length hb
        simp at this
        omega
      obtain ⟨ha, hca⟩ := hrc
      refine Ex.call (bc := (0, 0)) (b' := b) (av := (.ref a :: As).map (tr E)) rfl (by simp) (by simp) (fun C hr hl hF hL hcs => ?_) (hK _ _ _ _ _ _ h)
      have hG : GoodIn lw_g (wsV (mY M).cls idx (RR c) (mY M') (wsM M')) := fun w hw => by
        unfold wsV at hw
        rcases List.mem_append.mp hw with hw | hw
        · simp only [List.mem_cons, List.not_mem_nil, or_false] at hw
          rcases hw with rfl | rfl | rfl | rfl
          · exact lw_goodIn _ (inG hw1 rfl)
          · exact lw_goodIn _ (inG hw2 rfl)
          · exact lw_goodIn _ (inG hw3 rfl)
          · exact lw_goodIn _ (by rw [← hcl]; exact inG hm.2.1 rfl)
        · exact hm.ws w hw
      have hcell := (hr.2.2.1 a ha).1 (by rw [hca]; exact hc)
      obtain ⟨cell, q1, q2, q3, q4⟩ := hcell
      rw [hca] at q2
      obtain ⟨-, hfc, -⟩ := hr.K.1 _ _ (cl_at hc)
      refine va_runV (As := As.map (tr E)) (b := ad E a) ⟨C.1, C.2.1, C.2.2.2.1, C.2.2.2.2.1, C.2.2.2.2.2.1⟩ hrun (cwV (Ts := lw_g) (C := RR c) na C.2.2.2.2.2.1 hG rfl rfl rfl ⟨hcl, hm.2.2.1⟩ ⟨hF, by have := hm.2.2.2.1; omega⟩) ⟨PcE.blind, ⟨cell, by rw [ad_own hr ha]; exact q1, by rw [q3]; rfl, by rw [q2]; exact hfc⟩, fun U hU hW => ⟨rfl, by rw [hU]; exact hr.moved hW⟩⟩ rfl (by rw [List.length_map]; exact hAs) hl.1 ?_ (lv_room (by rw [catS_eq]; exact hcat)) hd hcs
      rw [hbs]
      show List.map (tr E) _ = _
      simp [tr]
    | int x => exact hrc.elim
    | long x => exact hrc.elim
    | float x => exact hrc.elim
    | double x => exact hrc.elim
    | null => exact hrc.elim
    | _ => exact hrc.elim
theorem s_callS {idx na : Nat} (hd : decode (mB M) pc = .ok (.invokestatic idx, 3)) (hn : pc + 3 = nx) (hm : MOK M' na) (hw1 : Cond.methodLink (mY M).cls idx (mY M') ∈ lw_tbl) (hw2 : Cond.static (mY M') ∈ lw_tbl) : SOp M pc (opCallS M' na nx) := by
  subst hn
  intro E d Q K hK lv st b G I h
  obtain ⟨bs, rest, rfl, hlen, ⟨hcat, d', r, G', I', rfl, hrun, h⟩⟩ := tk_e _ _ _ _ h
  rw [List.append_nil] at hrun
  refine Ex.call (bc := (0, 0)) (b' := b) (av := bs.reverse.map (tr E)) rfl (by simp) (by simp) (fun C hr hl hF hL hcs => ?_) (hK _ _ _ _ _ _ h)
  have hG : GoodIn lw_g (va_wsS (mY M).cls idx (mY M') (wsM M')) := fun w hw => by
    unfold va_wsS at hw
    rcases List.mem_append.mp hw with hw | hw
    · simp only [List.mem_cons, List.not_mem_nil, or_false] at hw
      rcases hw with rfl | rfl | rfl
      · exact lw_goodIn _ (inG hw1 rfl)
      · exact lw_goodIn _ (inG hw2 rfl)
      · exact lw_goodIn _ (inG hm.2.1 rfl)
    · exact hm.ws w hw
  refine va_runS (As := bs.reverse.map (tr E)) ⟨C.1, C.2.1, C.2.2.2.1, C.2.2.2.2.1, C.2.2.2.2.2.1⟩ hrun (va_cwS (Ts := lw_g) na C.2.2.2.2.2.1 hG rfl rfl rfl hm.2.2.1 ⟨hF, by have := hm.2.2.2.1; omega⟩) ⟨PcE.blind, fun U hU hW => ⟨rfl, by rw [hU]; exact hr.moved hW⟩⟩ rfl (by rw [List.length_map, List.length_reverse]; exact hlen) hl.1 ?_ (lv_room (by rw [catS_eq]; exact hcat)) hd hcs
  show List.map (tr E) _ = _
  simp
end
