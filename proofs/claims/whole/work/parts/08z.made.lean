/-! ===== texts called, objects and arrays made ===== -/
def opBRet : OP := fun _ _ Q _ _ st _ G I => popI st fun x r => r = [] ∧ x.toInt8.toInt32 = x ∧ Q (some (.int x)) G I
theorem s_bret {M : MI} {pc : Nat} (hd : decode (mB M) pc = .ok (.ireturn, 1)) (hr : mR M = some .byte) : SOp M pc opBRet := by
  intro E d Q K hK lv st b G I h
  obtain ⟨x, r, rfl, rfl, hx, hQ⟩ := popI_e h
  exact Ex.ret (r := some (.int x)) hQ (fun C hq hf => W.zret C.1 C.2.1 (C.2.2.1.trans hr) (by show Value.int x.toInt8.toInt32 = _; rw [hx]) hq hf hd C.2.2.2.2.2.2.1)
def rcvT (av : List Value) : Prop := match av with
  | .ref a :: _ => 100007 ≤ a ∧ a < 100011
  | _ => False
theorem rcvT_c (a : Nat) (r : List Value) : rcvT (.ref a :: r) = (100007 ≤ a ∧ a < 100011) := rfl
def opCallT (M' : MI) (na nx : Nat) : OP := fun E d _ K lv st b G I => tk (na + 1) [] st fun av rest => rcvT av ∧ catS rest ≤ 8 ∧ ∃ d' r G' I', d = d' + 1 ∧ Run E d' M' av (0, 0) G I r G' I' ∧ Kc K nx lv r rest b G' I'
section
variable {E : EV} {d : Nat} {M M' : MI} {Q : QT} {pc nx : Nat} {lv : LVs} {st : List Value} {b : Nat × Nat} {G G' : GD} {I I' : IM}
theorem s_callT {idx na : Nat} (hd : decode (mB M) pc = .ok (.invokevirtual idx, 3)) (hn : pc + 3 = nx) (hm : MOK M' na) (hcl : (mY M').cls = "java/lang/String") (hw1 : Cond.methodLink (mY M).cls idx (mY M') ∈ lw_tbl) (hw2 : Cond.instanceMethod (mY M') ∈ lw_tbl) (hw3 : Cond.selects "java/lang/String" (mY M') (mY M') ∈ lw_tbl) : SOp M pc (opCallT M' na nx) := by
  subst hn
  intro E d Q K hK lv st b G I h
  obtain ⟨bs, rest, rfl, hlen, ⟨hrc, hcat, d', r, G', I', rfl, hrun, h⟩⟩ := tk_e _ _ _ _ h
  rw [List.append_nil] at hrc hrun
  cases hb : bs.reverse with
  | nil => rw [hb] at hrc; exact hrc.elim
  | cons x As =>
    rw [hb] at hrc hrun
    cases x with
    | ref a =>
      have hbs : bs = (Value.ref a :: As).reverse := by rw [← hb, List.reverse_reverse]
      have hAs : As.length = na := by
        have := congrArg List.length hb
        simp at this
        omega
      refine Ex.call (bc := (0, 0)) (b' := b) (av := (.ref a :: As).map (tr E)) rfl (by simp) (by simp) (fun C hr hl hF hL hcs => ?_) (hK _ _ _ _ _ _ h)
      have hG : GoodIn lw_g (wsV (mY M).cls idx "java/lang/String" (mY M') (wsM M')) := fun w hw => by
        unfold wsV at hw
        rcases List.mem_append.mp hw with hw | hw
        · simp only [List.mem_cons, List.not_mem_nil, or_false] at hw
          rcases hw with rfl | rfl | rfl | rfl
          · exact lw_goodIn _ (inG hw1 rfl)
          · exact lw_goodIn _ (inG hw2 rfl)
          · exact lw_goodIn _ (inG hw3 rfl)
          · exact lw_goodIn _ (by rw [← hcl]; exact inG hm.2.1 rfl)
        · exact hm.ws w hw
      obtain ⟨j, hj, rfl⟩ := str_j hrc
      obtain ⟨-, -, ⟨cell, q1, q2, q3, -⟩, -, -⟩ := hr.pg.2.2.2.2.1 j hj
      have e9 : ad E (100007 + j) = ePr E (7 + j) := by
        unfold ad
        rw [if_neg (by omega), str_1 j]
      refine va_runV (As := As.map (tr E)) (b := ad E (100007 + j)) ⟨C.1, C.2.1, C.2.2.2.1, C.2.2.2.2.1, C.2.2.2.2.2.1⟩ hrun (cwV (Ts := lw_g) (C := "java/lang/String") na C.2.2.2.2.2.1 hG rfl rfl rfl ⟨hcl, hm.2.2.1⟩ ⟨hF, by have := hm.2.2.2.1; omega⟩) ⟨PcE.blind, ⟨cell, by rw [e9]; exact q1, q2, q3⟩, fun U hU hW => ⟨rfl, by rw [hU]; exact hr.moved hW⟩⟩ rfl (by rw [List.length_map]; exact hAs) hl.1 ?_ (lv_room (by rw [catS_eq]; exact hcat)) hd hcs
      rw [hbs]
      show List.map (tr E) _ = _
      simp [tr]
    | int x => exact hrc.elim
    | long x => exact hrc.elim
    | float x => exact hrc.elim
    | double x => exact hrc.elim
    | null => exact hrc.elim
    | _ => exact hrc.elim
/-! constructors -/
theorem s_callI {idx na : Nat} (hd : decode (mB M) pc = .ok (.invokespecial idx, 3)) (hn : pc + 3 = nx) (hm : MOK M' na) (hi : (mY M').name = "<init>") (hr0 : mR M' = none) (hw1 : Cond.methodLink (mY M).cls idx (mY M') ∈ lw_tbl) (hw2 : Cond.instanceMethod (mY M') ∈ lw_tbl) : SOp M pc (opCallI M' na nx) := by
  subst hn
  intro E d Q K hK lv st b G I h
  obtain ⟨bs, rest, rfl, hlen, ⟨⟨a, As, hb⟩, hcat, d', bc, r, G', I', b', rfl, y1, y2, hrun, h⟩⟩ := tk_e _ _ _ _ h
  rw [List.append_nil] at hb hrun
  rw [hb] at hrun
  have hbs : bs = (Value.ref a :: As).reverse := by rw [← hb, List.reverse_reverse]
  have hAs : As.length = na := by
    have := congrArg List.length hb
    simp at this
    omega
  refine Ex.call (bc := bc) (b' := b') (av := (.ref a :: As).map (tr E)) rfl y1 y2 (fun C hr hl hF hL hcs => ?_) (hK _ _ _ _ _ _ h)
  refine va_runI (As := As.map (tr E)) (b := ad E a) ⟨C.1, C.2.1, C.2.2.2.1, C.2.2.2.2.1, C.2.2.2.2.2.1⟩ hrun (cwI (Ts := lw_g) na C.2.2.2.2.2.1 hm.ws (by unfold wsM; rw [hr0]) rfl rfl (C.2.2.2.2.2.1 _ (inG hm.2.1 rfl)) (C.2.2.2.2.2.1 _ (inG hw1 rfl)) (C.2.2.2.2.2.1 _ (inG hw2 rfl)) hi hm.2.2.1 ⟨hF, by have := hm.2.2.2.1; omega⟩) ⟨PcE.blind, fun U hU hW => ⟨rfl, by rw [hU]; exact hr.moved hW⟩⟩ rfl (by rw [List.length_map]; exact hAs) hl.1 ?_ (lv_room (by rw [catS_eq]; exact hcat)) hd hcs
  rw [hbs]
  show List.map (tr E) _ = _
  simp [tr]
theorem s_callIN {idx na : Nat} {host : String} (hd : decode (mB M) pc = .ok (.invokespecial idx, 3)) (hn : pc + 3 = nx) (hm : MOK M' na) (hi : (mY M').name = "<init>") (hr0 : mR M' = none) (hw1 : Cond.methodLinkNest (mY M).cls idx (mY M') host ∈ lw_tbl) (hw2 : Cond.instanceMethod (mY M') ∈ lw_tbl) : SOp M pc (opCallI M' na nx) := by
  subst hn
  intro E d Q K hK lv st b G I h
  obtain ⟨bs, rest, rfl, hlen, ⟨⟨a, As, hb⟩, hcat, d', bc, r, G', I', b', rfl, y1, y2, hrun, h⟩⟩ := tk_e _ _ _ _ h
  rw [List.append_nil] at hb hrun
  rw [hb] at hrun
  have hbs : bs = (Value.ref a :: As).reverse := by rw [← hb, List.reverse_reverse]
  have hAs : As.length = na := by
    have := congrArg List.length hb
    simp at this
    omega
  refine Ex.call (bc := bc) (b' := b') (av := (.ref a :: As).map (tr E)) rfl y1 y2 (fun C hr hl hF hL hcs => ?_) (hK _ _ _ _ _ _ h)
  refine va_runIN (host := host) (As := As.map (tr E)) (b := ad E a) ⟨C.1, C.2.1, C.2.2.2.1, C.2.2.2.2.1, C.2.2.2.2.2.1⟩ hrun ⟨va_cnB (Ts := lw_g) na C.2.2.2.2.2.1 hm.ws (by unfold wsM; rw [hr0]) rfl rfl (hr.pg.2.2.2.2.2.2.2.2.1 _ (List.mem_filter.mpr ⟨hw1, rfl⟩)) (C.2.2.2.2.2.1 _ (inG hm.2.1 rfl)) hm.2.2.1 ⟨hF, by have := hm.2.2.2.1; omega⟩, hi, C.2.2.2.2.2.1 _ (inG hw2 rfl)⟩ ⟨PcE.blind, fun U hU hW => ⟨rfl, by rw [hU]; exact hr.moved hW⟩⟩ rfl (by rw [List.length_map]; exact hAs) hl.1 ?_ (lv_room (by rw [catS_eq]; exact hcat)) hd hcs
  rw [hbs]
  show List.map (tr E) _ = _
  simp [tr]
theorem gNw_ne {c n a : Nat} (h : a ≠ gN G) : gC (gNw G c n) a = gC G a ∧ gL (gNw G c n) a = gL G a ∧ gP (gNw G c n) a = gP G a ∧ gJ (gNw G c n) a = gJ G a := by
  have h : a ≠ G.1 := h
  refine ⟨?_, ?_, ?_, ?_⟩
  · show va_up G.2.1 G.1 c a = _
    simp [va_up, h, gC]
  · show va_up G.2.2.1 G.1 n a = _
    simp [va_up, h, gL]
  · funext k
    show upr G.2.2.2.1 G.1 (fun _ => none) a k = _
    simp [upr, h, gP]
  · funext k
    show upr G.2.2.2.2 G.1 (fun _ => 0) a k = _
    simp [upr, h, gJ]
theorem gNw_at (c n : Nat) : gC (gNw G c n) (gN G) = c ∧ gL (gNw G c n) (gN G) = n ∧ (∀ k, gP (gNw G c n) (gN G) k = none) ∧ ∀ k, gJ (gNw G c n) (gN G) k = 0 := by
  refine ⟨?_, ?_, fun k => ?_, fun k => ?_⟩
  · show va_up G.2.1 G.1 c G.1 = _
    simp [va_up]
  · show va_up G.2.2.1 G.1 n G.1 = _
    simp [va_up]
  · show upr G.2.2.2.1 G.1 (fun _ => none) G.1 k = _
    simp [upr]
  · show upr G.2.2.2.2 G.1 (fun _ => 0) G.1 k = _
    simp [upr]
theorem HR.push {s : State} {H H1 : Heap} {c n : Nat} (hr : HR E G I s H) (hz : gN G < 100000) (z : H1.size = H.size + 1) (o1 : ∀ q, q < H.size → H1[q]? = H[q]?) (hc : cellOK E (gNw G c n) (upr I (gN G) (fun _ => 0)) H1 (gN G)) : HR E (gNw G c n) (upr I (gN G) (fun _ => 0)) s H1 := by
  refine ⟨by rw [z, hr.1]; rfl, hz, fun a ha => ?_, hr.2.2.2.1, fun i hi => ?_, hr.2.2.2.2.2.step sameP.rf (State.WarmedH.refl s) (fun q hq _ => o1 q hq)⟩
  · have ha : a < gN G + 1 := ha
    by_cases e : a = gN G
    · rw [e]; exact hc
    · obtain ⟨e0, e1, e2, e3⟩ := gNw_ne (c := c) (n := n) e
      exact (hr.2.2.1 a (by omega)).kept (o1 _ (by rw [hr.1]; omega)) e0 e1 e2 e3 (upr_ne e)
  · obtain ⟨e0, e1, e2, e3⟩ := gNw_ne (G := G) (c := c) (n := n) (a := i) (by omega)
    obtain ⟨g0, g1, g2, g3⟩ := hr.2.2.2.2.1 i hi
    exact ⟨e0.trans g0, e1.trans g1, e2.trans g2, (upr_ne (by omega)).trans g3⟩
theorem S_push {s : State} {H H1 : Heap} {locs : List Loc} (h : va_S (eAA E) s.heap H locs) (z : H1.size = H.size + 1) (o1 : ∀ q, q < H.size → H1[q]? = H[q]?) : va_S (eAA E) s.heap H1 locs := ⟨Nat.le_trans h.1 (by omega), fun x g1 g2 => (o1 x (Nat.lt_of_lt_of_le g1 h.1)).trans (h.2.1 x g1 g2), h.2.2⟩
/-- a step that makes cells: k of them, n slots -/
theorem Ex.goN {st' : List Value} {k n : Nat} {b' : Nat × Nat} (hb1 : k + b'.1 ≤ b.1) (hb2 : n + b'.2 ≤ b.2)
    (f : ∀ {p : Program} {e : Env} {R : Room} {s : State} {m : MethodId} {args : Array Value} {below : List Frame} {meth : Method} {c : Code} {H : Heap} {locs : List Loc} {cells slots : Nat} {Qw : State → Prop} {ls : Array Slot},
      CX M p s m args meth c → HR E G I s H → va_S (eAA E) s.heap H locs → cells + k ≤ R.cells → slots + n ≤ R.slots →
      (∀ H1, HR E G' I' s H1 → va_S (eAA E) s.heap H1 locs → W p (eL E) e R s m args below meth c H1 locs (cells + k) (slots + n) Qw (F0 m nx ls (st'.map (tr E)))) → W p (eL E) e R s m args below meth c H locs cells slots Qw (F0 m pc ls (st.map (tr E))))
    (h : Ex E d M Q nx lv st' b' G' I') : Ex E d M Q pc lv st b G I :=
  fun p e R s m args below meth c H locs cells slots mc ms ls C hr h1 h2 h3 h4 h5 h6 h7 h8 hl => f C hr h1 (by omega) (by omega) (fun H1 hr1 hS1 => h p e R s m args below meth c H1 locs (cells + k) (slots + n) mc ms ls C hr1 hS1 h2 h3 h4 (by omega) (by omega) h7 h8 hl)
theorem tr_new {s : State} {H : Heap} (hr : HR E G I s H) (hz : gN G < 100000) : tr E (.ref (gN G)) = .ref H.size := by
  show Value.ref (ad E (gN G)) = _
  unfold ad
  rw [if_pos hz, hr.1]
def opObjI (nx : Nat) : OP := fun _ d _ K lv st b G I => popR st fun _ r => 0 < d ∧ catS r ≤ 8 ∧ K nx lv r b G I
theorem s_objI {idx : Nat} (hd : decode (mB M) pc = .ok (.invokespecial idx, 3)) (hn : pc + 3 = nx) (hw1 : Cond.methodLink (mY M).cls idx Lib.objectInit ∈ lw_tbl) (hw2 : Cond.instanceMethod Lib.objectInit ∈ lw_tbl) (hw3 : Cond.code Lib.objectInit ⟨#[0xb1]⟩ 1 none ∈ lw_tbl) : SOp M pc (opObjI nx) := by
  subst hn
  intro E d Q K hK lv st b G I h
  obtain ⟨a, r, rfl, hd0, hcat, h2⟩ := popR_e h
  have hE := hK _ _ _ _ _ _ h2
  intro p e R s m args below meth c H locs cells slots mc ms ls C hr hS hB hF hL hc hs hmc hms hl
  exact W.objInit C.1 C.2.1 C.2.2.2.2.1 (C.2.2.2.2.2.1 _ (inG hw1 rfl)) (C.2.2.2.2.2.1 _ (inG hw2 rfl)) (C.2.2.2.2.2.1 _ (inG hw3 rfl)) rfl (by show ls.size = _; rw [C.2.2.2.1]; exact hl.1) rfl hd (by omega) (by show 2 * 0 + _ + 12 ≤ _; rw [catS_eq]; omega) (hE p e R s m args below meth c H locs cells slots mc ms ls C hr hS hB hF hL hc hs hmc hms hl)
def opNew (c nx : Nat) : OP := fun _ _ _ K lv st b G I => gN G < 100000 ∧ 1 ≤ b.1 ∧ nfl c ≤ b.2 ∧ K nx lv (.ref (gN G) :: st) (b.1 - 1, b.2 - nfl c) (gNw G c 0) (upr I (gN G) (fun _ => 0))
theorem cl_fd : ∀ c, c < 12 → ∀ k, k < nfl c → fty c k ≠ .double ∧ fty c k ≠ .float := by decide +kernel
theorem def_vV {c k : Nat} (hfd : fty c k ≠ .double ∧ fty c k ≠ .float) : defaultValue (fty c k) = vV E (gNw G c 0) (upr I (gN G) (fun _ => 0)) (gN G) (tcode (fty c k)) k := by
  have hn := gNw_at (G := G) c 0
  cases h : fty c k <;> first | exact absurd h hfd.1 | exact absurd h hfd.2 | simp [tcode, vV, defaultValue, upr, hn.2.2.1, hn.2.2.2, va_rf]
theorem s_new {idx ci : Nat} (hd : decode (mB M) pc = .ok (.new idx, 3)) (hn : pc + 3 = nx) (hc : ci < 12) (hw1 : Cond.classLink (mY M).cls idx (RR ci) ∈ lw_tbl) (hw2 : Cond.instantiable (RR ci) (nfl ci) ∈ lw_tbl) (hw3 : Cond.initialized (RR ci) ∈ lw_tbl) : SOp M pc (opNew ci nx) := by
  subst hn
  intro E d Q K hK lv st b G I h
  obtain ⟨hz, h1, h2, h⟩ := h
  refine Ex.goN (k := 1) (n := nfl ci) (by simp; omega) (by simp; omega) (fun C hr hS hcs hss w => ?_) (hK _ _ _ _ _ _ h)
  have hKn := hr.K.1 ci _ (cl_at hc)
  refine W.newcK C.1 C.2.1 C.2.2.2.2.1 (C.2.2.2.2.2.1 _ (inG hw1 rfl)) (C.2.2.2.2.2.1 _ (inG hw2 rfl)) (C.2.2.2.2.2.1 _ (inG hw3 rfl)) rfl hd hcs hss hKn.2.1 rfl fun H1 kC hkC e1 z1 o1 => ?_
  have hn := gNw_at (G := G) ci 0
  have := w H1 (hr.push hz z1 o1 ?_) (S_push hS z1 o1)
  · simp only [List.map_cons, tr_new hr hz] at this
    exact this
  · unfold cellOK
    rw [hn.1]
    refine ⟨fun _ => ?_, fun q => absurd q (by omega)⟩
    have hb := u_born (fty ci) C.2.2.2.2.2.1 (cl_in hc) hKn hkC e1 (cl_ty hc)
    rw [hr.1] at hb
    exact hb.to (fun k hk => def_vV (cl_fd ci hc k hk))
def aty (t : Nat) : ArrayType := if t = 100 then .int else if t = 101 then .long else .boolean
def opNewA (t nx : Nat) : OP := fun _ _ _ K lv st b G I => popI st fun n r => gN G < 100000 ∧ 1 ≤ b.1 ∧ n.toNatClampNeg ≤ b.2 ∧ ¬ n < 0 ∧ n.toNatClampNeg ≤ 100000 ∧ K nx lv (.ref (gN G) :: r) (b.1 - 1, b.2 - n.toNatClampNeg) (gNw G t n.toNatClampNeg) (upr I (gN G) (fun _ => 0))
theorem s_newA {t k : Nat} (hd : decode (mB M) pc = .ok (.newarray (aty t), 2)) (hn : pc + 2 = nx) (ht : t = 100 ∧ k = 0 ∨ t = 101 ∧ k = 1 ∨ t = 102 ∧ k = 2) (hw : Cond.arrayClass (newarray.typeOf (aty t)) ∈ lw_tbl) : SOp M pc (opNewA t nx) := by
  subst hn
  intro E d Q K hK lv st b G I h
  obtain ⟨n, r, rfl, hz, h1, h2, h3, h4, h⟩ := popI_e h
  refine Ex.goN (k := 1) (n := n.toNatClampNeg) (by simp; omega) (by simp; omega) (fun C hr hS hcs hss w => ?_) (hK _ _ _ _ _ _ h)
  have hn := gNw_at (G := G) t n.toNatClampNeg
  have hb : n.toNatClampNeg * componentBytes (newarray.typeOf (aty t)) ≤ 536870912 := by
    rcases ht with ⟨rfl, -⟩ | ⟨rfl, -⟩ | ⟨rfl, -⟩ <;> simp [aty, newarray.typeOf, componentBytes] <;> omega
  refine va_newaK C.1 C.2.1 (C.2.2.2.2.2.1 _ (inG hw rfl)) rfl hd rfl h3 rfl hb hcs hss rfl fun H1 cA e1 z1 o1 hAr hNm => ?_
  have := w H1 (hr.push hz z1 o1 ?_) (S_push hS z1 o1)
  · simp only [List.map_cons, tr_new hr hz] at this
    exact this
  · unfold cellOK
    rw [hn.1, hn.2.1]
    refine ⟨fun q => absurd q (by rcases ht with ⟨rfl, -⟩ | ⟨rfl, -⟩ | ⟨rfl, -⟩ <;> decide), fun _ => ?_⟩
    rw [← hr.1, e1]
    rcases ht with ⟨rfl, rfl⟩ | ⟨rfl, rfl⟩ | ⟨rfl, rfl⟩
    · have hc : some cA = some (eA E 100) := hNm.symm.trans (hr.K.2 0 _ rfl).2
      cases hc
      congr 2
      funext k
      show Value.int 0 = Value.int (upr I (gN G) (fun _ => 0) (gN G) k)
      simp [upr]
    · have hc : some cA = some (eA E 101) := hNm.symm.trans (hr.K.2 1 _ rfl).2
      cases hc
      congr 2
      funext k
      show Value.long 0 = Value.long (gJ (gNw G 101 n.toNatClampNeg) (gN G) k)
      rw [hn.2.2.2]
    · have hc : some cA = some (eA E 102) := hNm.symm.trans (hr.K.2 2 _ rfl).2
      cases hc
      congr 2
      funext k
      show Value.int 0 = Value.int (upr I (gN G) (fun _ => 0) (gN G) k)
      simp [upr]
def opANew (nx : Nat) : OP := fun _ _ _ K lv st b G I => popI st fun n r => gN G < 100000 ∧ 1 ≤ b.1 ∧ n.toNatClampNeg ≤ b.2 ∧ ¬ n < 0 ∧ n.toNatClampNeg ≤ 100000 ∧ K nx lv (.ref (gN G) :: r) (b.1 - 1, b.2 - n.toNatClampNeg) (gNw G 104 n.toNatClampNeg) (upr I (gN G) (fun _ => 0))
theorem s_aNew {idx : Nat} (hd : decode (mB M) pc = .ok (.anewarray idx, 3)) (hn : pc + 3 = nx) (hw1 : Cond.classLink (mY M).cls idx RX6 ∈ lw_tbl) : SOp M pc (opANew nx) := by
  subst hn
  intro E d Q K hK lv st b G I h
  obtain ⟨n, r, rfl, hz, h1, h2, h3, h4, h⟩ := popI_e h
  refine Ex.goN (k := 1) (n := n.toNatClampNeg) (by simp; omega) (by simp; omega) (fun C hr hS hcs hss w => ?_) (hK _ _ _ _ _ _ h)
  have hn := gNw_at (G := G) 104 n.toNatClampNeg
  refine W.anew C.1 C.2.1 C.2.2.2.2.1 (C.2.2.2.2.2.1 _ (inG hw1 rfl)) hr.pg.2.2.2.2.2.2.2.2.2.1.use rfl hd rfl h3 (by omega) hcs hss fun cA kA comp f1 f2 f3 f4 => ?_
  rename_i H _ _ _ _ _
  generalize hH1 : H.push ({ cls := cA, slots := Array.replicate n.toNatClampNeg .null, vm := .none } : Cell) = H1
  have z1 : H1.size = H.size + 1 := by rw [← hH1, Array.size_push]
  have e1 : H1[H.size]? = some (arrV cA n.toNatClampNeg (fun _ => .null)) := by rw [← hH1, Array.getElem?_push_size, ← arrV_new]
  have o1 : ∀ q : Nat, q < H.size → H1[q]? = H[q]? := fun q hq => by rw [← hH1, Array.getElem?_push, if_neg (Nat.ne_of_lt hq)]
  have := w H1 (hr.push hz z1 o1 ?_) (S_push hS z1 o1)
  · simp only [List.map_cons, tr_new hr hz] at this
    exact this
  · unfold cellOK
    rw [hn.1, hn.2.1]
    refine ⟨fun q => absurd q (by decide), fun _ => ?_⟩
    rw [← hr.1, e1]
    obtain ⟨kA', comp', k1, k2, k3, k4⟩ := (hr.K.2 3 _ rfl).2
    have hc : some cA = some (eA E 104) := f1.symm.trans k4
    cases hc
    congr 2
    funext k
    show Value.null = va_rf ((gP (gNw G 104 n.toNatClampNeg) (gN G) k).map (ad E))
    rw [hn.2.2.1]
    rfl
def opAAStore (nx : Nat) : OP := fun _ _ _ K lv st b G I => popR st fun x r => popI r fun i r => popR r fun a r => okO G a 104 ∧ okO G x 6 ∧ vp_in i (gL G a) ∧ K nx lv r b (gpP G a i.toNatClampNeg (some x)) I
theorem s_aastore (hd : decode (mB M) pc = .ok (.aastore, 1)) (hn : pc + 1 = nx) : SOp M pc (opAAStore nx) := by
  subst hn
  intro E d Q K hK lv st b G I h
  obtain ⟨x, r, rfl, h1⟩ := popR_e h
  obtain ⟨i, r, rfl, h2⟩ := popI_e h1
  obtain ⟨a, r, rfl, ⟨h0, h00⟩, ⟨x0, x00⟩, hi, h3⟩ := popR_e h2
  refine Ex.goH (fun C hl hr hS w => ?_) (hK _ _ _ _ _ _ h3)
  have h1 := (hr.2.2.1 a h0).2 (by rw [h00]; decide)
  rw [h00] at h1
  obtain ⟨cellV, g1, g2, g3, -⟩ := (hr.2.2.1 x x0).1 (by rw [x00]; decide)
  rw [x00] at g2
  have hcls := (hr.K.1 6 _ (cl_at (by decide))).2
  obtain ⟨kA, comp, k1, k2, k3, -⟩ := (hr.K.2 3 _ rfl).2
  have hcomp : comp = (eD E).1 6 := Option.some.inj (k3.symm.trans hcls.1)
  subst hcomp
  obtain ⟨kC, hkC, -⟩ := hcls.2
  simp only [List.map_cons, tr, ad_own hr h0, ad_own hr x0]
  refine W.aast C.1 C.2.1 h1 (fun q h => by cases h) (fun h => by cases h) k1 k2 rfl hkC ⟨fun q => hi (Or.inl q), by rw [arrV_size]; exact hi.lt⟩ g1 (fun q h => by rw [g3] at h; cases h) (by rw [g2]; exact hkC) (by rw [g2]; exact va_assign hcls) rfl rfl hd fun H1 e z oq => ?_
  refine w H1 _ (hr.arr (G' := gpP G a i.toNatClampNeg (some x)) h0 h00 (by decide) e z oq rfl rfl rfl (fun b hb => ⟨up2_ne hb, rfl, rfl⟩) (fun k => ?_)) (S_put hS z oq)
  show updV (fun k => va_rf ((gP G a k).map (ad E))) _ _ k = va_rf ((up2 _ a _ (some x) a k).map (ad E))
  unfold updV up2
  by_cases e : k = i.toNatClampNeg
  · simp [e, va_rf, ad_own hr x0]
  · simp [e, gP]
theorem vr_outer (c : ClassId) (N h0 : Nat) : ∀ i : Nat, Jvm.Free.Multi.outerC c N h0 i = arrV c N (fun j => va_rf (if j < i then some (h0 + 1 + j) else none))
  | 0 => by
    show ({ cls := c, slots := Array.replicate N .null, vm := .none } : Cell) = _
    rw [arrV_new]
    refine congrArg (arrV c N) (funext fun j => ?_)
    simp [va_rf]
  | i + 1 => by
    show (Jvm.Free.Multi.outerC c N h0 i).setSlot i (.ref (h0 + 1 + i)) = _
    rw [vr_outer c N h0 i, arrV_store]
    refine congrArg (arrV c N) (funext fun j => ?_)
    by_cases e : j = i
    · subst e
      simp [updV, va_rf]
    · by_cases h : j < i
      · simp [updV, e, h, Nat.lt_succ_of_lt h]
      · simp [updV, e, h, show ¬ j < i + 1 by omega]
/-- n rows of k ints, and what holds them -/
def gMul (G : GD) (n k : Nat) : GD := (G.1 + 1 + n, fun a => if a = G.1 then 105 else if G.1 < a ∧ a ≤ G.1 + n then 100 else G.2.1 a, fun a => if a = G.1 then n else if G.1 < a ∧ a ≤ G.1 + n then k else G.2.2.1 a, fun a j => if a = G.1 then (if j < n then some (G.1 + 1 + j) else none) else if G.1 < a ∧ a ≤ G.1 + n then none else G.2.2.2.1 a j, fun a j => if G.1 ≤ a ∧ a ≤ G.1 + n then 0 else G.2.2.2.2 a j)
def iMul (G : GD) (I : IM) (n : Nat) : IM := fun a j => if G.1 ≤ a ∧ a ≤ G.1 + n then 0 else I a j
def opMNew (nx : Nat) : OP := fun _ _ _ K lv st b G I => popI st fun k r => popI r fun n r => gN G + 1 + n.toNatClampNeg ≤ 100000 ∧ 1 + n.toNatClampNeg ≤ b.1 ∧ n.toNatClampNeg + n.toNatClampNeg * k.toNatClampNeg ≤ b.2 ∧ ¬ n < 0 ∧ ¬ k < 0 ∧ n.toNatClampNeg ≤ 100000 ∧ k.toNatClampNeg ≤ 100000 ∧
  K nx lv (.ref (gN G) :: r) (b.1 - (1 + n.toNatClampNeg), b.2 - (n.toNatClampNeg + n.toNatClampNeg * k.toNatClampNeg)) (gMul G n.toNatClampNeg k.toNatClampNeg) (iMul G I n.toNatClampNeg)
theorem s_mNew {idx : Nat} (hd : decode (mB M) pc = .ok (.multianewarray idx 2, 4)) (hn : pc + 4 = nx) (hw1 : Cond.classLink (mY M).cls idx ("[" ++ (FieldType.array .int).toString) ∈ lw_tbl) (hw3 : Cond.arrayClass .int ∈ lw_tbl) : SOp M pc (opMNew nx) := by
  subst hn
  intro E d Q K hK lv st b G I h
  obtain ⟨k, r, rfl, y1⟩ := popI_e h
  obtain ⟨n, rest, rfl, hz, h1, h2, h3, h4, h5, h6, h7⟩ := popI_e y1
  have hE := hK _ _ _ _ _ _ h7
  intro p e R s m args below meth c H locs cells slots mc ms ls C hr hS hB hF hL hc hs hmc hms hl T hT Xs
  obtain ⟨vm₁, cA, comp, -, fA, fC, hO, -, X', step⟩ := Xs.multianewarray2F C.1 C.2.2.2.2.1 (C.2.2.2.2.2.1 _ (inG hw1 rfl)) hr.pg.2.2.2.2.2.2.2.2.2.2 (C.2.2.2.2.2.1 _ (inG hw3 rfl)) (g := F0 m pc ls (.int k :: .int n :: rest.map (tr E))) rfl (by rw [C.2.1]; exact hd) rfl h3 h4 (by omega) (by show _ * 4 ≤ _; omega) (by omega) rfl rfl (by omega) (by omega)
  generalize hN : n.toNatClampNeg = N at *
  generalize hM : k.toNatClampNeg = K9 at *
  generalize hFl : Jvm.Free.Multi.fill (T.setVm vm₁) cA comp N K9 (defaultValue .int) N = Fl at X' step
  have hTh : (T.setVm vm₁).heap = H := hT
  obtain ⟨f1, f2, -, -⟩ := Jvm.Free.Multi.fill_facts (T.setVm vm₁) cA comp N K9 (defaultValue .int) N
  rw [hFl, hTh] at f1 f2
  have hold : ∀ x : Nat, x < H.size → Fl.heap[x]? = H[x]? := fun x hx => by
    have := Jvm.Free.Multi.fill_old (T.setVm vm₁) cA comp N K9 (defaultValue .int) (a := x) (by rw [hTh]; exact hx) N
    rw [hFl, hTh] at this
    exact this
  have hrow : ∀ j : Nat, j < N → Fl.heap[H.size + 1 + j]? = some (Jvm.Free.Multi.innerC comp K9 (defaultValue .int)) := fun j hj => by
    have := Jvm.Free.Multi.fill_inner (T.setVm vm₁) cA comp N K9 (defaultValue .int) N j hj
    rw [hFl, hTh] at this
    exact this
  have ec : some comp = some (eA E 100) := fC.symm.trans (hr.K.2 0 _ rfl).2
  cases ec
  have eA5 : some cA = some (eA E 105) := fA.symm.trans (hr.K.2 4 _ rfl).2
  cases eA5
  have hr1 : HR E (gMul G N K9) (iMul G I N) s Fl.heap := by
    refine ⟨by rw [f1, hr.1]; show _ = eB E + (G.1 + 1 + N); show eB E + G.1 + 1 + N = _; omega, hz, fun a ha => ?_, hr.2.2.2.1, fun i hi => ?_, hr.2.2.2.2.2.step sameP.rf (State.WarmedH.refl s) (fun q hq _ => hold q hq)⟩
    · have ha : a < G.1 + 1 + N := ha
      by_cases e1 : a < G.1
      · refine (hr.2.2.1 a e1).kept (hold _ (by rw [hr.1]; show _ < eB E + G.1; omega)) ?_ ?_ ?_ ?_ ?_
        · show (if a = G.1 then 105 else if G.1 < a ∧ a ≤ G.1 + N then 100 else G.2.1 a) = _
          rw [if_neg (by omega), if_neg (by omega)]; rfl
        · show (if a = G.1 then N else if G.1 < a ∧ a ≤ G.1 + N then K9 else G.2.2.1 a) = _
          rw [if_neg (by omega), if_neg (by omega)]; rfl
        · funext j
          show (if a = G.1 then (if j < N then some (G.1 + 1 + j) else none) else if G.1 < a ∧ a ≤ G.1 + N then none else G.2.2.2.1 a j) = _
          rw [if_neg (by omega), if_neg (by omega)]; rfl
        · funext j
          show (if G.1 ≤ a ∧ a ≤ G.1 + N then 0 else G.2.2.2.2 a j) = _
          rw [if_neg (by omega)]; rfl
        · funext j
          show (if G.1 ≤ a ∧ a ≤ G.1 + N then 0 else I a j) = _
          rw [if_neg (by omega)]
      · by_cases e2 : a = G.1
        · subst e2
          have c1 : gC (gMul G N K9) G.1 = 105 := if_pos rfl
          have c2 : gL (gMul G N K9) G.1 = N := if_pos rfl
          unfold cellOK
          rw [c1, c2]
          refine ⟨fun q => absurd q (by decide), fun _ => ?_⟩
          show Fl.heap[eB E + gN G]? = _
          rw [← hr.1, f2, vr_outer]
          congr 2
          funext j
          show va_rf _ = va_rf ((if G.1 = G.1 then (if j < N then some (G.1 + 1 + j) else none) else if G.1 < G.1 ∧ G.1 ≤ G.1 + N then none else G.2.2.2.1 G.1 j).map (ad E))
          rw [if_pos rfl]
          by_cases hj : j < N
          · rw [if_pos hj, if_pos hj]
            show Value.ref _ = Value.ref (ad E _)
            unfold ad
            rw [if_pos (by have : gN G = G.1 := rfl; omega), hr.1]
            show Value.ref (eB E + G.1 + 1 + j) = Value.ref (eB E + (G.1 + 1 + j))
            rw [Nat.add_assoc (eB E + G.1) 1 j, Nat.add_assoc (eB E) G.1 (1 + j), ← Nat.add_assoc G.1 1 j]
          · rw [if_neg hj, if_neg hj]; rfl
        · have c1 : gC (gMul G N K9) a = 100 := by
            show (if a = G.1 then 105 else if G.1 < a ∧ a ≤ G.1 + N then 100 else G.2.1 a) = _
            rw [if_neg e2, if_pos (by omega)]
          have c2 : gL (gMul G N K9) a = K9 := by
            show (if a = G.1 then N else if G.1 < a ∧ a ≤ G.1 + N then K9 else G.2.2.1 a) = _
            rw [if_neg e2, if_pos (by omega)]
          unfold cellOK
          rw [c1, c2]
          refine ⟨fun q => absurd q (by decide), fun _ => ?_⟩
          have hj := hrow (a - G.1 - 1) (by omega)
          rw [hr.1, show eB E + gN G + 1 + (a - G.1 - 1) = eB E + a by show eB E + G.1 + 1 + _ = _; omega] at hj
          rw [hj, show Jvm.Free.Multi.innerC (eA E 100) K9 (defaultValue .int) = arrV (eA E 100) K9 (fun _ => defaultValue .int) from arrV_new _ _ _]
          congr 2
          funext j
          show Value.int 0 = Value.int (if G.1 ≤ a ∧ a ≤ G.1 + N then 0 else I a j)
          rw [if_pos (by omega)]
    · have hgn : gN G = G.1 := rfl
      obtain ⟨g0, g1, g2, g4⟩ := hr.2.2.2.2.1 i hi
      refine ⟨Eq.trans ?_ g0, Eq.trans ?_ g1, Eq.trans ?_ g2, Eq.trans ?_ g4⟩
      · show (if i = G.1 then 105 else if G.1 < i ∧ i ≤ G.1 + N then 100 else G.2.1 i) = _
        rw [if_neg (by omega), if_neg (by omega)]; rfl
      · show (if i = G.1 then N else if G.1 < i ∧ i ≤ G.1 + N then K9 else G.2.2.1 i) = _
        rw [if_neg (by omega), if_neg (by omega)]; rfl
      · funext j
        show (if i = G.1 then (if j < N then some (G.1 + 1 + j) else none) else if G.1 < i ∧ i ≤ G.1 + N then none else G.2.2.2.1 i j) = _
        rw [if_neg (by omega), if_neg (by omega)]; rfl
      · funext j
        show (if G.1 ≤ i ∧ i ≤ G.1 + N then 0 else I i j) = _
        rw [if_neg (by omega)]
  have hS1 : va_S (eAA E) s.heap Fl.heap locs := ⟨Nat.le_trans hS.1 (by omega), fun x g1 g2 => (hold x (Nat.lt_of_lt_of_le g1 hS.1)).trans (hS.2.1 x g1 g2), hS.2.2⟩
  obtain ⟨t, a1, b1⟩ := hE p e R s m args below meth c _ _ (cells + 1 + N) (slots + N + N * K9) mc ms ls C hr1 hS1 hB hF hL (by simp; omega) (by simp; omega) hmc hms hl Fl rfl X'
  refine ⟨t, step t ?_, b1⟩
  have e9 : tr E (.ref (gN G)) = .ref T.heap.size := by rw [hT]; exact tr_new hr (by omega)
  simp only [List.map_cons, e9] at a1
  exact a1
end
