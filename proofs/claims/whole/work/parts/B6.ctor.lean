/-! ===== what constructors make ===== -/
section
variable {E : EV} {d : Nat} {M M' : MI} {Q : QT} {pc nx : Nat} {lv : LVs} {st : List Value} {b : Nat × Nat} {G G' : GD} {I I' : IM} {r : Option Value} {bc b' : Nat × Nat} {rest : List Value}
/-- what follows a call of which only a relation is known -/
theorem Ex.callQ {d' : Nat} {av : List Value} {Qc : QT} (hd : d = d' + 1) (h1 : bc.1 + b'.1 ≤ b.1) (h2 : bc.2 + b'.2 ≤ b.2)
    (f : ∀ {p : Program} {e : Env} {R : Room} {s : State} {m : MethodId} {args : Array Value} {below : List Frame} {meth : Method} {c : Code} {H : Heap} {locs : List Loc} {cells slots : Nat} {ls : Array Slot},
      CX M p s m args meth c → HR E G I s H → LV E ls (mX M) lv → (rmM d' bc).frames + 1 ≤ R.frames → (rmM d' bc).locals + 64 ≤ R.locals → cells + bc.1 ≤ R.cells ∧ slots + bc.2 ≤ R.slots →
      va_Run p (eL E) e R s m args below meth c H locs cells slots bc.1 bc.2 (F0 m pc ls (st.map (tr E))) (rest.map (tr E)) (QE E Qc av.toArray) (eAA E))
    (h : ∀ r G' I', Qc r G' I' → Ex E d M Q (pc + 3) lv (r.toList ++ rest) b' G' I') : Ex E d M Q pc lv st b G I := by
  intro p e R s m args below meth c H locs cells slots mc ms ls C hr hS hB hF hL hc hs hmc hms hl T hT X
  subst hd
  obtain ⟨v, st₀, t, T', L, h0, X', hLL, e1, e2, ⟨⟨r', G1, I1, hv, hq, hr'⟩, hz, hk⟩, stp⟩ := f C hr hl hF (by show 64 * d' + 64 ≤ R.locals; omega) ⟨by omega, by omega⟩ T hT X
  cases hv
  rw [h0] at hz hk
  have hS' : va_S (eAA E) s.heap t.heap (locs ++ L) := ⟨Nat.le_trans hS.1 hz, fun q g1 g2 => by rw [hk q (Nat.lt_of_lt_of_le g1 hS.1) g2]; exact hS.2.1 q g1 g2, fun q hq => by
    rcases List.mem_append.mp hq with g | g
    · exact hS.2.2 q g
    · exact hLL q g⟩
  have := h r' G1 I1 hq p e R s m args below meth c t.heap (locs ++ L) (cells + bc.1) (slots + bc.2) mc ms ls C (hr.back hr' hk) hS' hB hF hL (by omega) (by omega) hmc hms hl T' e1 X'
  obtain ⟨t2, a1, b1⟩ := this
  refine ⟨t2, stp t2 ?_, b1⟩
  have e5 : (r'.map (tr E)).toList ++ rest.map (tr E) = (r'.toList ++ rest).map (tr E) := by
    rw [List.map_append]
    cases r' <;> rfl
  show Steps _ _ _ (T'.setTop (F0 m (pc + 3) ls ((r'.map (tr E)).toList ++ rest.map (tr E)))) t2
  rw [e5]
  exact a1
def rcvQ (av : List Value) : Prop := match av with
  | .ref _ :: _ => True
  | _ => False
theorem rcvQ_c (a : Nat) (r : List Value) : rcvQ (.ref a :: r) = True := rfl
def opCallQ (M' : MI) (na nx : Nat) : OP := fun E d _ K lv st b G I => tk (na + 1) [] st fun av rest => rcvQ av ∧ catS rest ≤ 8 ∧ ∃ d' bc Qc b', d = d' + 1 ∧ bc.1 + b'.1 ≤ b.1 ∧ bc.2 + b'.2 ≤ b.2 ∧ Ct E d' M' av bc G I Qc ∧ ∀ r G' I', Qc r G' I' → Kc K nx lv r rest b' G' I'
theorem rcvQ_e {av : List Value} (h : rcvQ av) : ∃ a r, av = .ref a :: r := by
  match av, h with
  | .ref a :: r, _ => exact ⟨a, r, rfl⟩
theorem s_callIQ {idx na : Nat} (hd : decode (mB M) pc = .ok (.invokespecial idx, 3)) (hn : pc + 3 = nx) (hm : MOK M' na) (hi : (mY M').name = "<init>") (hr0 : mR M' = none) (hw1 : Cond.methodLink (mY M).cls idx (mY M') ∈ lw_tbl) (hw2 : Cond.instanceMethod (mY M') ∈ lw_tbl) : SOp M pc (opCallQ M' na nx) := by
  subst hn
  intro E d Q K hK lv st b G I h
  obtain ⟨bs, rest, rfl, hlen, ⟨hav, hcat, d', bc, Qc, b', rfl, y1, y2, hrun, h⟩⟩ := tk_e _ _ _ _ h
  obtain ⟨a, As, hb⟩ := rcvQ_e hav
  rw [hb] at hrun
  rw [List.append_nil] at hb
  have hbs : bs = (Value.ref a :: As).reverse := by rw [← hb, List.reverse_reverse]
  have hAs : As.length = na := by
    have := congrArg List.length hb
    simp at this
    omega
  refine Ex.callQ (bc := bc) (b' := b') (av := (.ref a :: As).map (tr E)) rfl y1 y2 (fun C hr hl hF hL hcs => ?_) (fun r G' I' hq => hK _ _ _ _ _ _ (h r G' I' hq))
  refine va_runI (As := As.map (tr E)) (b := ad E a) ⟨C.1, C.2.1, C.2.2.2.1, C.2.2.2.2.1, C.2.2.2.2.2.1⟩ hrun (cwI (Ts := lw_g) na C.2.2.2.2.2.1 hm.ws (by unfold wsM; rw [hr0]) rfl rfl (C.2.2.2.2.2.1 _ (inG hm.2.1 rfl)) (C.2.2.2.2.2.1 _ (inG hw1 rfl)) (C.2.2.2.2.2.1 _ (inG hw2 rfl)) hi hm.2.2.1 ⟨hF, by have := hm.2.2.2.1; omega⟩) ⟨PcE.blind, fun U hU hW => ⟨rfl, by rw [hU]; exact hr.moved hW⟩⟩ rfl (by rw [List.length_map]; exact hAs) hl.1 ?_ (lv_room (by rw [catS_eq]; exact hcat)) hd hcs
  rw [hbs]
  show List.map (tr E) _ = _
  simp [tr]
theorem s_callINQ {idx na : Nat} {host : String} (hd : decode (mB M) pc = .ok (.invokespecial idx, 3)) (hn : pc + 3 = nx) (hm : MOK M' na) (hi : (mY M').name = "<init>") (hr0 : mR M' = none) (hw1 : Cond.methodLinkNest (mY M).cls idx (mY M') host ∈ lw_tbl) (hw2 : Cond.instanceMethod (mY M') ∈ lw_tbl) : SOp M pc (opCallQ M' na nx) := by
  subst hn
  intro E d Q K hK lv st b G I h
  obtain ⟨bs, rest, rfl, hlen, ⟨hav, hcat, d', bc, Qc, b', rfl, y1, y2, hrun, h⟩⟩ := tk_e _ _ _ _ h
  obtain ⟨a, As, hb⟩ := rcvQ_e hav
  rw [hb] at hrun
  rw [List.append_nil] at hb
  have hbs : bs = (Value.ref a :: As).reverse := by rw [← hb, List.reverse_reverse]
  have hAs : As.length = na := by
    have := congrArg List.length hb
    simp at this
    omega
  refine Ex.callQ (bc := bc) (b' := b') (av := (.ref a :: As).map (tr E)) rfl y1 y2 (fun C hr hl hF hL hcs => ?_) (fun r G' I' hq => hK _ _ _ _ _ _ (h r G' I' hq))
  refine va_runIN (host := host) (As := As.map (tr E)) (b := ad E a) ⟨C.1, C.2.1, C.2.2.2.1, C.2.2.2.2.1, C.2.2.2.2.2.1⟩ hrun ⟨va_cnB (Ts := lw_g) na C.2.2.2.2.2.1 hm.ws (by unfold wsM; rw [hr0]) rfl rfl (hr.pg.2.2.2.2.2.2.2.2.1 _ (List.mem_filter.mpr ⟨hw1, rfl⟩)) (C.2.2.2.2.2.1 _ (inG hm.2.1 rfl)) hm.2.2.1 ⟨hF, by have := hm.2.2.2.1; omega⟩, hi, C.2.2.2.2.2.1 _ (inG hw2 rfl)⟩ ⟨PcE.blind, fun U hU hW => ⟨rfl, by rw [hU]; exact hr.moved hW⟩⟩ rfl (by rw [List.length_map]; exact hAs) hl.1 ?_ (lv_room (by rw [catS_eq]; exact hcat)) hd hcs
  rw [hbs]
  show List.map (tr E) _ = _
  simp [tr]
/-- the law's call of its helper -/
def isPv (av : List Value) (p w : Int32) : Prop := av = [.ref 0, .int p, .int w, .ref 338]
def opLp (nx : Nat) : OP := fun E d _ K lv st b G I => tk 4 [] st fun av rest => catS rest ≤ 8 ∧ ∃ p w d' Qc b', isPv av p w ∧ d = d' + 1 ∧ 1 + b'.1 ≤ b.1 ∧ 6 + b'.2 ≤ b.2 ∧ CtL E d' p w G I Qc ∧ ∀ r G' I', Qc r G' I' → Kc K nx lv r rest b' G' I'
theorem s_lp {idx : Nat} (hd : decode (mB M) pc = .ok (.invokestatic idx, 3)) (hn : pc + 3 = nx) (hw1 : Cond.methodLink (mY M).cls idx yL_person ∈ lw_tbl) : SOp M pc (opLp nx) := by
  subst hn
  intro E d Q K hK lv st b G I h
  obtain ⟨bs, rest, rfl, hlen, ⟨hcat, p, w, d', Qc, b', hav, rfl, y1, y2, hrun, h⟩⟩ := tk_e _ _ _ _ h
  rw [List.append_nil] at hav
  have hbs : bs = ([.ref 0, .int p, .int w, .ref 338] : List Value).reverse := by rw [← hav, List.reverse_reverse]
  refine Ex.callQ (bc := (1, 6)) (b' := b') (av := ([.ref 0, .int p, .int w, .ref 338] : List Value).map (tr E)) rfl y1 y2 (fun C hr hl hF hL hcs => ?_) (fun r G' I' hq => hK _ _ _ _ _ _ (h r G' I' hq))
  have hG : GoodIn lw_g (va_wsS (mY M).cls idx yL_person wsLp) := fun w hw => by
    unfold va_wsS at hw
    rcases List.mem_append.mp hw with hw | hw
    · simp only [List.mem_cons, List.not_mem_nil, or_false] at hw
      rcases hw with rfl | rfl | rfl
      · exact lw_goodIn _ (inG hw1 rfl)
      · exact lw_goodIn _ (inG (mT5 (List.mem_of_getElem? (i := 78) rfl)) rfl)
      · exact lw_goodIn _ (inG (mT1 (List.mem_of_getElem? (i := 0) rfl)) rfl)
    · rcases List.mem_cons.mp hw with rfl | hw
      · exact lw_goodIn _ (inG (mT5 (List.mem_of_getElem? (i := 79) rfl)) rfl)
      · exact lw_goodIn _ hw
  refine vx_runSW (As := ([.ref 0, .int p, .int w, .ref 338] : List Value).map (tr E)) ⟨C.1, C.2.1, C.2.2.2.1, C.2.2.2.2.1, C.2.2.2.2.2.1⟩ hrun (vx_cwSW (Ts := lw_g) 4 C.2.2.2.2.2.1 hG rfl rfl rfl (by decide +kernel) ⟨hF, by have h9 : 64 * d' + 64 ≤ _ := hL; show 8 + (5 + 11) + 64 * d' ≤ _; omega⟩) ⟨PcE.blind, fun U hU hW => ⟨rfl, by rw [hU]; exact hr.moved hW⟩⟩ rfl rfl hl.1 ?_ (lv_room (by rw [catS_eq]; exact hcat)) hd hcs
  rw [hbs]
  show List.map (tr E) _ = _
  simp [tr]
end
section
/-- the ints that are not 0 at first -/
def kI (a k : Nat) : Int32 := if a = 0 ∧ k = 16 then 2 else if a = 27 ∧ k = 6 then -1 else if (a = 12 ∨ a = 25) ∧ k = 3 then -1 else if a = 311 ∧ k = 29 then -1 else if a = 311 ∧ k = 30 then 2 else 0
abbrev zI (b : Nat) : Prop := b ≠ 0 ∧ b ≠ 27 ∧ b ≠ 12 ∧ b ≠ 25 ∧ b ≠ 311
theorem kI_z {b : Nat} (h : zI b) : kI b = fun _ => 0 := by
  obtain ⟨h1, h2, h3, h4, h5⟩ := h
  funext k
  unfold kI
  rw [if_neg (fun z => h1 z.1), if_neg (fun z => h2 z.1), if_neg (fun z => z.1.elim h3 h4), if_neg (fun z => h5 z.1), if_neg (fun z => h5 z.1)]
def cellS (G : GD) (I : IM) (b : Nat) : Prop := gC G b = kC b ∧ (100 ≤ kC b → gL G b = kL b) ∧ (∀ k q, kP b k = some q → gP G b k = some q) ∧ I b = kI b
def sameB (G : GD) (I : IM) (G' : GD) (I' : IM) (b : Nat) : Prop := gC G' b = gC G b ∧ gL G' b = gL G b ∧ gP G' b = gP G b ∧ gJ G' b = gJ G b ∧ I' b = I b
variable {G G0 G1 G2 : GD} {I I0 I1 I2 : IM} {a b c n n' t k len : Nat} {dn : List (Nat × Nat)} {ri : Nat → Int32}
theorem sameB.rf : sameB G I G I b := ⟨rfl, rfl, rfl, rfl, rfl⟩
theorem sameB.tr (h : sameB G I G1 I1 b) (h' : sameB G1 I1 G2 I2 b) : sameB G I G2 I2 b := ⟨h'.1.trans h.1, h'.2.1.trans h.2.1, h'.2.2.1.trans h.2.2.1, h'.2.2.2.1.trans h.2.2.2.1, h'.2.2.2.2.trans h.2.2.2.2⟩
theorem sameB.nw {r : Nat → Int32} (h : b ≠ gN G) : sameB G I (gNw G c n) (upr I (gN G) r) b := ⟨gC_nw h, gL_nw h, gP_nw h, gJ_nw h, upr_ne h⟩
theorem sameB.pP {v : Option Nat} (h : b ≠ a) : sameB G I (gpP G a k v) I b := ⟨rfl, rfl, by funext j; exact if_neg h, rfl, rfl⟩
theorem sameB.pI {v : Int32} (h : b ≠ a) : sameB G I G (up2 I a k v) b := ⟨rfl, rfl, rfl, rfl, by funext j; exact if_neg h⟩
theorem cellS.keep (h : cellS G I b) (s : sameB G I G1 I1 b) : cellS G1 I1 b := ⟨s.1.trans h.1, fun z => s.2.1.trans (h.2.1 z), fun k q z => by rw [s.2.2.1]; exact h.2.2.1 k q z, s.2.2.2.2.trans h.2.2.2⟩
theorem lkP_mem : ∀ {l : List (Nat × Nat)} {k q : Nat}, lkP l k = some q → (k, q) ∈ l
  | [], _, _, h => by cases h
  | (x, y) :: r, k, q, h => by
    unfold lkP at h
    by_cases e : k = x
    · rw [if_pos e] at h
      cases h
      rw [e]
      exact List.mem_cons_self
    · rw [if_neg e] at h
      exact List.mem_cons_of_mem _ (lkP_mem h)
def cellX (r : Nat) (G : GD) (I : IM) (b : Nat) : Prop := gC G b = kC b ∧ (100 ≤ kC b → gL G b = kL b) ∧ (b ≠ r → ∀ k q, kP b k = some q → gP G b k = some q) ∧ I b = kI b
theorem cellX.keep {r : Nat} (h : cellX r G I b) (s : sameB G I G1 I1 b) : cellX r G1 I1 b := ⟨s.1.trans h.1, fun z => s.2.1.trans (h.2.1 z), fun e k q z => by rw [s.2.2.1]; exact h.2.2.1 e k q z, s.2.2.2.2.trans h.2.2.2⟩
theorem cellS.x {r : Nat} (h : cellS G I b) : cellX r G I b := ⟨h.1, h.2.1, fun _ => h.2.2.1, h.2.2.2⟩
/-- an object a in the making: n cells so far, its fields dn, its ints ri; all cells behind a are as they shall be, but for the references of r -/
def SB (r a n c : Nat) (G0 : GD) (I0 : IM) (dn : List (Nat × Nat)) (ri : Nat → Int32) (G : GD) (I : IM) : Prop := (a < n ∧ n ≤ 100000) ∧ gN G = n ∧ (∀ b, b < a ∨ 100000 ≤ b → sameB G0 I0 G I b) ∧ gC G a = c ∧ (∀ x ∈ dn, gP G a x.1 = some x.2) ∧ I a = ri ∧ ∀ b, a < b → b < n → cellX r G I b
def Done (a n : Nat) (G0 : GD) (I0 : IM) (G : GD) (I : IM) : Prop := (a < n ∧ n ≤ 100000) ∧ gN G = n ∧ (∀ b, b < a ∨ 100000 ≤ b → sameB G0 I0 G I b) ∧ ∀ b, a ≤ b → b < n → cellS G I b
variable {r : Nat}
theorem SB.base (h1 : gN G = a + 1) (h0 : a + 1 ≤ 100000) (h2 : gC G a = c) (h3 : I a = fun _ => 0) : SB r a (a + 1) c G I [] (fun _ => 0) G I :=
  ⟨⟨Nat.lt_succ_self _, h0⟩, h1, fun _ _ => sameB.rf, h2, fun _ hx => (nomatch hx), h3, fun b hb1 hb2 => absurd hb2 (by omega)⟩
theorem dn_put {G1 : GD} (hk : ∀ x ∈ dn, x.1 ≠ k) (h : ∀ x ∈ dn, gP G1 a x.1 = some x.2) : ∀ x ∈ (k, n) :: dn, gP (gpP G1 a k (some n)) a x.1 = some x.2 := fun x hx => by
  rcases List.mem_cons.mp hx with rfl | hx
  · show up2 _ a k _ a k = _
    exact up2_sa _ _ _ _
  · have : gP (gpP G1 a k (some n)) a x.1 = gP G1 a x.1 := by
      show up2 _ a k _ a x.1 = _
      unfold up2
      rw [if_pos rfl, if_neg (hk x hx)]
      rfl
    rw [this]
    exact h x hx
/-- an array more, put into a field -/
theorem SB.arr (h : SB r a n c G0 I0 dn ri G I) (hn : n < 100000) (h1 : kC n = t) (h2 : kL n = len) (h3 : n = r ∨ tblP.getD n [] = []) (h4 : zI n) (hk : ∀ x ∈ dn, x.1 ≠ k) : SB r a (n + 1) c G0 I0 ((k, n) :: dn) ri (gpP (gNw G t len) a k (some n)) (upr I n (fun _ => 0)) := by
  obtain ⟨⟨s1, s2⟩, s3, s4, s5, s6, s7, s8⟩ := h
  subst s3
  have ha : a ≠ gN G := by omega
  have o : ∀ b, b ≠ a → b ≠ gN G → sameB G I (gpP (gNw G t len) a k (some (gN G))) (upr I (gN G) (fun _ => 0)) b := fun b e1 e2 => (sameB.nw e2).tr (sameB.pP e1)
  refine ⟨⟨by omega, by omega⟩, rfl, fun b hb => (s4 b hb).tr (o b (by omega) (by omega)), (gC_nw (k := t) (n := len) ha).trans s5, dn_put hk (fun x hx => by rw [gP_nw ha]; exact s6 x hx), (upr_ne ha).trans s7, fun b e1 e2 => ?_⟩
  by_cases e : b = gN G
  · subst e
    refine ⟨(gNw_at t len).1.trans h1.symm, fun _ => (gNw_at t len).2.1.trans h2.symm, fun er k q z => ?_, ?_⟩
    · unfold kP at z
      rw [h3.resolve_left er] at z
      cases z
    · rw [kI_z h4]
      show upr I (gN G) _ (gN G) = _
      funext j
      exact if_pos rfl
  · exact (s8 b e1 (by omega)).keep (o b (by omega) e)
theorem SB.int {v : Int32} (h : SB r a n c G0 I0 dn ri G I) : SB r a n c G0 I0 dn (fun j => if j = k then v else ri j) G (up2 I a k v) := by
  obtain ⟨⟨s1, s2⟩, s3, s4, s5, s6, s7, s8⟩ := h
  refine ⟨⟨s1, s2⟩, s3, fun b hb => (s4 b hb).tr (sameB.pI (by omega)), s5, s6, ?_, fun b e1 e2 => (s8 b e1 e2).keep (sameB.pI (by omega))⟩
  rw [← s7]
  funext j
  exact if_pos rfl
/-- an object more, made by its own constructor, put into a field -/
theorem SB.sub {c' : Nat} (h : SB r a n c G0 I0 dn ri G I) (hD : Done n n' (gNw G c' 0) (upr I n (fun _ => 0)) G1 I1) (hk : ∀ x ∈ dn, x.1 ≠ k) : SB r a n' c G0 I0 ((k, n) :: dn) ri (gpP G1 a k (some n)) I1 := by
  obtain ⟨⟨s1, s2⟩, s3, s4, s5, s6, s7, s8⟩ := h
  obtain ⟨⟨t1, t2⟩, t3, t4, t5⟩ := hD
  subst s3
  have ha : a ≠ gN G := by omega
  have o : ∀ b, b ≠ a → b < gN G ∨ 100000 ≤ b → sameB G I (gpP G1 a k (some (gN G))) I1 b := fun b e1 e2 => ((sameB.nw (by omega)).tr (t4 b e2)).tr (sameB.pP e1)
  have oa : sameB G I G1 I1 a := (sameB.nw ha).tr (t4 a (Or.inl s1))
  refine ⟨⟨by omega, t2⟩, t3, fun b hb => (s4 b hb).tr (o b (by omega) (by omega)), oa.1.trans s5, dn_put hk (fun x hx => by rw [oa.2.2.1]; exact s6 x hx), oa.2.2.2.2.trans s7, fun b e1 e2 => ?_⟩
  by_cases e : b < gN G
  · exact (s8 b e1 e).keep (o b (by omega) (Or.inl e))
  · exact (t5 b (by omega) e2).x.keep (sameB.pP (by omega))
/-- an object more, put into the array r -/
theorem SB.elt {c' j : Nat} (h : SB r a n c G0 I0 dn ri G I) (hD : Done n n' (gNw G c' 0) (upr I n (fun _ => 0)) G1 I1) (h1 : a < r) (h2 : r < n) {f : Nat → Nat} (hf : ∀ i, i < j → gP G r i = some (f i)) (hj : f j = n) : SB r a n' c G0 I0 dn ri (gpP G1 r j (some n)) I1 ∧ ∀ i, i < j + 1 → gP (gpP G1 r j (some n)) r i = some (f i) := by
  obtain ⟨⟨s1, s2⟩, s3, s4, s5, s6, s7, s8⟩ := h
  obtain ⟨⟨t1, t2⟩, t3, t4, t5⟩ := hD
  subst s3
  have o : ∀ b, b < gN G ∨ 100000 ≤ b → sameB G I G1 I1 b := fun b e2 => (sameB.nw (by omega)).tr (t4 b e2)
  have rk : ∀ b, cellX r G1 I1 b → cellX r (gpP G1 r j (some (gN G))) I1 b := fun b hb => by
    by_cases e : b = r
    · subst e
      exact ⟨hb.1, hb.2.1, fun z => absurd rfl z, hb.2.2.2⟩
    · exact hb.keep (sameB.pP e)
  refine ⟨⟨⟨by omega, t2⟩, t3, fun b hb => (s4 b hb).tr ((o b (by omega)).tr (sameB.pP (by omega))), (o a (Or.inl s1)).1.trans s5, fun x hx => ?_, (o a (Or.inl s1)).2.2.2.2.trans s7, fun b e1 e2 => ?_⟩, fun i hi => ?_⟩
  · rw [(sameB.pP (G := G1) (I := I1) (k := j) (v := some (gN G)) (show a ≠ r by omega)).2.2.1, (o a (Or.inl s1)).2.2.1]
    exact s6 x hx
  · by_cases e : b < gN G
    · exact rk b ((s8 b e1 e).keep (o b (Or.inl e)))
    · exact rk b (t5 b (by omega) e2).x
  · by_cases e : i = j
    · subst e
      rw [hj]
      exact up2_sa _ _ _ _
    · have : gP (gpP G1 r j (some (gN G))) r i = gP G1 r i := by
        show up2 _ r j _ r i = _
        unfold up2
        rw [if_pos rfl, if_neg e]
        rfl
      rw [this, (o r (Or.inl h2)).2.2.1]
      exact hf i (by omega)
theorem SB.fin (h : SB r a n c G0 I0 dn ri G I) (h1 : kC a = c) (hc : c < 100) (h2 : ∀ x ∈ tblP.getD a [], x ∈ dn) (h3 : kI a = ri) (hr : r = 0 ∨ ∀ k q, kP r k = some q → gP G r k = some q) : Done a n G0 I0 G I := by
  obtain ⟨s0, s3, s4, s5, s6, s7, s8⟩ := h
  refine ⟨s0, s3, s4, fun b e1 e2 => ?_⟩
  by_cases e : b = a
  · subst e
    exact ⟨s5.trans h1.symm, fun z => absurd z (by omega), fun k q z => s6 _ (h2 _ (lkP_mem z)), s7.trans h3.symm⟩
  · have hb := s8 b (by omega) e2
    refine ⟨hb.1, hb.2.1, ?_, hb.2.2.2⟩
    by_cases er : b = r
    · rcases hr with hr | hr
      · omega
      · rw [er]; exact hr
    · exact hb.2.2.1 er
/-- four arrays of 241 and the array of them, put into a field -/
theorem SB.mul (h : SB r a n c G0 I0 dn ri G I) (hn : n + 5 ≤ 100000) (h1 : kC n = 105) (h2 : kL n = 4) (h3 : tblP.getD n [] = [(0, n + 1), (1, n + 2), (2, n + 3), (3, n + 4)]) (hz : zI n) (h4 : ∀ j, j < 4 → kC (n + 1 + j) = 100 ∧ kL (n + 1 + j) = 241 ∧ tblP.getD (n + 1 + j) [] = [] ∧ zI (n + 1 + j)) (hk : ∀ x ∈ dn, x.1 ≠ k) : SB r a (n + 5) c G0 I0 ((k, n) :: dn) ri (gpP (gMul G 4 241) a k (some n)) (iMul G I 4) := by
  obtain ⟨⟨s1, s2⟩, s3, s4, s5, s6, s7, s8⟩ := h
  have e3 : G.1 = n := s3
  have o : ∀ b, b < n ∨ n + 4 < b → sameB G I (gMul G 4 241) (iMul G I 4) b := fun b hb => by
    refine ⟨?_, ?_, ?_, ?_, ?_⟩
    · show (if b = G.1 then 105 else if G.1 < b ∧ b ≤ G.1 + 4 then 100 else G.2.1 b) = G.2.1 b
      rw [if_neg (by omega), if_neg (by omega)]
    · show (if b = G.1 then 4 else if G.1 < b ∧ b ≤ G.1 + 4 then 241 else G.2.2.1 b) = G.2.2.1 b
      rw [if_neg (by omega), if_neg (by omega)]
    · funext j
      show (if b = G.1 then _ else if G.1 < b ∧ b ≤ G.1 + 4 then _ else _) = _
      rw [if_neg (by omega), if_neg (by omega)]
      rfl
    · funext j
      show (if G.1 ≤ b ∧ b ≤ G.1 + 4 then 0 else G.2.2.2.2 b j) = G.2.2.2.2 b j
      rw [if_neg (by omega)]
    · funext j
      show (if G.1 ≤ b ∧ b ≤ G.1 + 4 then 0 else I b j) = I b j
      rw [if_neg (by omega)]
  have oa := o a (Or.inl s1)
  refine ⟨⟨by omega, hn⟩, (by show G.1 + 1 + 4 = n + 5; omega), fun b hb => ((s4 b hb).tr (o b (by omega))).tr (sameB.pP (by omega)), oa.1.trans s5, dn_put hk (fun x hx => by rw [oa.2.2.1]; exact s6 x hx), oa.2.2.2.2.trans s7, fun b e1 e2 => ?_⟩
  by_cases e : b < n
  · exact ((s8 b e1 e).keep (o b (Or.inl e))).keep (sameB.pP (by omega))
  · refine cellX.keep (G := gMul G 4 241) (I := iMul G I 4) ?_ (sameB.pP (by omega))
    have hI : zI b → iMul G I 4 b = kI b := fun z => by
      rw [kI_z z]
      funext j
      show (if G.1 ≤ b ∧ b ≤ G.1 + 4 then 0 else I b j) = 0
      rw [if_pos (by omega)]
    by_cases e2 : b = n
    · subst e2
      refine ⟨?_, fun _ => ?_, fun _ k q z => ?_, hI hz⟩
      · rw [h1]
        show (if b = G.1 then 105 else _) = 105
        rw [if_pos e3.symm]
      · rw [h2]
        show (if b = G.1 then 4 else _) = 4
        rw [if_pos e3.symm]
      · have hm := lkP_mem z
        rw [h3] at hm
        have hq : k < 4 ∧ q = b + 1 + k := by
          simp only [List.mem_cons, Prod.mk.injEq, List.not_mem_nil, or_false] at hm
          omega
        show (if b = G.1 then (if k < 4 then some (G.1 + 1 + k) else none) else _) = _
        rw [if_pos e3.symm, if_pos hq.1, hq.2, e3]
    · obtain ⟨j, hj, rfl⟩ : ∃ j, j < 4 ∧ b = n + 1 + j := ⟨b - n - 1, by omega, by omega⟩
      obtain ⟨g1, g2, g3, g4⟩ := h4 j hj
      refine ⟨?_, fun _ => ?_, fun _ k q z => ?_, hI g4⟩
      · rw [g1]
        show (if n + 1 + j = G.1 then 105 else if G.1 < n + 1 + j ∧ n + 1 + j ≤ G.1 + 4 then 100 else _) = 100
        rw [if_neg (by omega), if_pos (by omega)]
      · rw [g2]
        show (if n + 1 + j = G.1 then 4 else if G.1 < n + 1 + j ∧ n + 1 + j ≤ G.1 + 4 then 241 else _) = 241
        rw [if_neg (by omega), if_pos (by omega)]
      · unfold kP at z
        rw [g3] at z
        cases z
end
