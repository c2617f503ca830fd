/-! ===== instructions that read and write memory ===== -/
def okO (G : GD) (a c : Nat) : Prop := a < gN G ∧ gC G a = c
def okA (G : GD) (a : Nat) : Prop := (a < gN G ∨ 100000 ≤ a ∧ a < 100007) ∧ gC G a = 100
def opGetI (c k nx : Nat) : OP := fun _ _ _ K lv st b G I => popR st fun a r => okO G a c ∧ K nx lv (.int (I a k) :: r) b G I
def opGetL (c k nx : Nat) : OP := fun _ _ _ K lv st b G I => popR st fun a r => okO G a c ∧ K nx lv (.long (gJ G a k) :: r) b G I
def opGetR (c k nx : Nat) : OP := fun _ _ _ K lv st b G I => popR st fun a r => okO G a c ∧ asP (gP G a k) fun q => K nx lv (.ref q :: r) b G I
def opPutI (c k nx : Nat) : OP := fun _ _ _ K lv st b G I => popI st fun x r => popR r fun a r => okO G a c ∧ K nx lv r b G (up2 I a k x)
def opPutZ (c k nx : Nat) : OP := fun _ _ _ K lv st b G I => popI st fun x r => popR r fun a r => okO G a c ∧ (x = 0 ∨ x = 1) ∧ K nx lv r b G (up2 I a k x)
def opPutL (c k nx : Nat) : OP := fun _ _ _ K lv st b G I => popL st fun x r => popR r fun a r => okO G a c ∧ K nx lv r b (gpJ G a k x) I
def opPutR (c k nx : Nat) : OP := fun _ _ _ K lv st b G I => popR st fun x r => popR r fun a r => okO G a c ∧ K nx lv r b (gpP G a k (some x)) I
def opIALoad (nx : Nat) : OP := fun _ _ _ K lv st b G I => popI st fun i r => popR r fun a r => okA G a ∧ vp_in i (gL G a) ∧ K nx lv (.int (I a i.toNatClampNeg) :: r) b G I
def opBALoad (nx : Nat) : OP := fun _ _ _ K lv st b G I => popI st fun i r => popR r fun a r => (100013 ≤ a ∧ a < 100017) ∧ vp_in i (gL G a) ∧ K nx lv (.int (I a i.toNatClampNeg) :: r) b G I
def opZALoad (nx : Nat) : OP := fun _ _ _ K lv st b G I => popI st fun i r => popR r fun a r => okO G a 102 ∧ vp_in i (gL G a) ∧ K nx lv (.int (I a i.toNatClampNeg) :: r) b G I
def opLALoad (nx : Nat) : OP := fun _ _ _ K lv st b G I => popI st fun i r => popR r fun a r => okO G a 101 ∧ vp_in i (gL G a) ∧ K nx lv (.long (gJ G a i.toNatClampNeg) :: r) b G I
def opAALoad (nx : Nat) : OP := fun _ _ _ K lv st b G I => popI st fun i r => popR r fun a r => (okO G a 104 ∨ okO G a 105) ∧ vp_in i (gL G a) ∧ asP (gP G a i.toNatClampNeg) fun q => K nx lv (.ref q :: r) b G I
def opIAStore (nx : Nat) : OP := fun _ _ _ K lv st b G I => popI st fun x r => popI r fun i r => popR r fun a r => okO G a 100 ∧ vp_in i (gL G a) ∧ K nx lv r b G (up2 I a i.toNatClampNeg x)
def opZAStore (nx : Nat) : OP := fun _ _ _ K lv st b G I => popI st fun x r => popI r fun i r => popR r fun a r => okO G a 102 ∧ vp_in i (gL G a) ∧ (x = 0 ∨ x = 1) ∧ K nx lv r b G (up2 I a i.toNatClampNeg x)
def opLAStore (nx : Nat) : OP := fun _ _ _ K lv st b G I => popL st fun x r => popI r fun i r => popR r fun a r => okO G a 101 ∧ vp_in i (gL G a) ∧ K nx lv r b (gpJ G a i.toNatClampNeg x) I
def opALen (nx : Nat) : OP := fun _ _ _ K lv st b G I => popR st fun a r => (okA G a ∨ (100013 ≤ a ∧ a < 100017) ∨ okO G a 104) ∧ K nx lv (.int (nI (gL G a)) :: r) b G I
def opGetS (j nx : Nat) : OP := fun _ _ _ K lv st b G I => K nx lv (.ref (100001 + j) :: st) b G I
def opGetC (nx : Nat) : OP := fun _ _ _ K lv st b G I => K nx lv (.int 1 :: st) b G I
def opStrV (nx : Nat) : OP := fun _ _ _ K lv st b G I => popR st fun a r => (100007 ≤ a ∧ a < 100011) ∧ K nx lv (.ref (a + 6) :: r) b G I
def opStrC (nx : Nat) : OP := fun _ _ _ K lv st b G I => popR st fun a r => (100007 ≤ a ∧ a < 100011) ∧ K nx lv (.int 0 :: r) b G I
section
variable {E : EV} {d : Nat} {M : MI} {Q : QT} {pc nx : Nat} {lv : LVs} {st : List Value} {b : Nat × Nat} {G : GD} {I : IM}
variable {p : Program} {e : Env} {R : Room} {s : State} {m : MethodId} {args : Array Value} {below : List Frame} {meth : Method} {c : Code} {H : Heap} {locs : List Loc} {cells slots : Nat} {Qw : State → Prop} {ls : Array Slot}
theorem HR.K (h : HR E G I s H) : va_K (eD E) vwCl (tyl E) s := h.2.2.2.1
theorem W_getf {ci k a idx : Nat} {rest : List Value} (hd : decode (mB M) pc = .ok (.getfield idx, 3)) (hc : ci < 12) (hk : k < nfl ci) (hw : Cond.fieldLink (mY M).cls idx (RR ci) (TT ci k).2.1 (TT ci k).2.2.1 ∈ lw_tbl)
    (C : CX M p s m args meth c) (hr : HR E G I s H) (ha : okO G a ci)
    (kk : W p (eL E) e R s m args below meth c H locs cells slots Qw (F0 m (pc + 3) ls (vV E G I a (tcode (fty ci k)) k :: rest))) : W p (eL E) e R s m args below meth c H locs cells slots Qw (F0 m pc ls (.ref (ad E a) :: rest)) := by
  obtain ⟨ha, rfl⟩ := ha
  have hcl := cl_at hc
  obtain ⟨cell, q1, q2, q3, q4⟩ := (hr.2.2.1 a ha).1 hc
  obtain ⟨hS, hfc, kC, hkC, hkind⟩ := hr.K.1 _ _ hcl
  obtain ⟨cf, kf, fi, f, hi, hsl⟩ := hS k hk
  rw [ad_own hr ha]
  have hdc : (TT (gC G a) k).1 = RR (gC G a) := cl_dec0 _ hc k hk
  refine W.getf C.1 C.2.1 C.2.2.2.2.1 (C.2.2.2.2.2.1 _ (inG hw rfl)) (by rw [← hdc]; exact hi) (u_facts hfc hkC (u_lays C.2.2.2.2.2.1 (cl_in hc) hk) hi).1 q1 (by rw [q3]; exact fun h => by cases h) (v := vV E G I a (tcode (fty (gC G a) k)) k) ?_ rfl rfl hd kk
  rw [hsl, q4 k hk]
theorem s_getI {ci k idx : Nat} (hd : decode (mB M) pc = .ok (.getfield idx, 3)) (hn : pc + 3 = nx) (hc : ci < 12) (hk : k < nfl ci) (ht : tcode (fty ci k) = 0) (hw : Cond.fieldLink (mY M).cls idx (RR ci) (TT ci k).2.1 (TT ci k).2.2.1 ∈ lw_tbl) : SOp M pc (opGetI ci k nx) := by
  subst hn
  intro E d Q K hK lv st b G I h
  obtain ⟨a, r, rfl, h0, h⟩ := popR_e h
  exact Ex.go (fun C hl hr w => W_getf hd hc hk hw C hr h0 (by rw [ht]; exact w)) (hK _ _ _ _ _ _ h)
theorem s_getL {ci k idx : Nat} (hd : decode (mB M) pc = .ok (.getfield idx, 3)) (hn : pc + 3 = nx) (hc : ci < 12) (hk : k < nfl ci) (ht : tcode (fty ci k) = 1) (hw : Cond.fieldLink (mY M).cls idx (RR ci) (TT ci k).2.1 (TT ci k).2.2.1 ∈ lw_tbl) : SOp M pc (opGetL ci k nx) := by
  subst hn
  intro E d Q K hK lv st b G I h
  obtain ⟨a, r, rfl, h0, h⟩ := popR_e h
  exact Ex.go (fun C hl hr w => W_getf hd hc hk hw C hr h0 (by rw [ht]; exact w)) (hK _ _ _ _ _ _ h)
theorem s_getR {ci k idx : Nat} (hd : decode (mB M) pc = .ok (.getfield idx, 3)) (hn : pc + 3 = nx) (hc : ci < 12) (hk : k < nfl ci) (ht : tcode (fty ci k) = 2) (hw : Cond.fieldLink (mY M).cls idx (RR ci) (TT ci k).2.1 (TT ci k).2.2.1 ∈ lw_tbl) : SOp M pc (opGetR ci k nx) := by
  subst hn
  intro E d Q K hK lv st b G I h
  obtain ⟨a, r, rfl, h0, h⟩ := popR_e h
  obtain ⟨q, hq, h⟩ := asP_e h
  refine Ex.go (fun C hl hr w => W_getf hd hc hk hw C hr h0 ?_) (hK _ _ _ _ _ _ h)
  rw [ht]
  show W _ _ _ _ _ _ _ _ _ _ _ _ _ _ _ (F0 _ _ _ (va_rf ((gP G a k).map (ad E)) :: _))
  rw [hq]
  exact w
/-- a step that changes memory -/
theorem Ex.goH {G' : GD} {I' : IM} {st' : List Value}
    (f : ∀ {p : Program} {e : Env} {R : Room} {s : State} {m : MethodId} {args : Array Value} {below : List Frame} {meth : Method} {c : Code} {H : Heap} {locs : List Loc} {cells slots : Nat} {Qw : State → Prop} {ls : Array Slot},
      CX M p s m args meth c → LV E ls (mX M) lv → HR E G I s H → va_S (eAA E) s.heap H locs →
      (∀ H1 locs1, HR E G' I' s H1 → va_S (eAA E) s.heap H1 locs1 → W p (eL E) e R s m args below meth c H1 locs1 cells slots Qw (F0 m nx ls (st'.map (tr E)))) → W p (eL E) e R s m args below meth c H locs cells slots Qw (F0 m pc ls (st.map (tr E))))
    (h : Ex E d M Q nx lv st' b G' I') : Ex E d M Q pc lv st b G I :=
  fun p e R s m args below meth c H locs cells slots mc ms ls C hr h1 h2 h3 h4 h5 h6 h7 h8 hl => f C hl hr h1 (fun H1 locs1 hr1 hS1 => h p e R s m args below meth c H1 locs1 cells slots mc ms ls C hr1 hS1 h2 h3 h4 h5 h6 h7 h8 hl)
theorem S_put {a k : Nat} {H1 : Heap} (h : va_S (eAA E) s.heap H locs) (z : H1.size = H.size) (oq : ∀ q : Nat, q ≠ eB E + a → H1[q]? = H[q]?) : va_S (eAA E) s.heap H1 (locs ++ [⟨eB E + a, k⟩]) := h.put z oq (Nat.le_add_right _ _)
theorem up2_ne {α : Type} {f : Nat → Nat → α} {a b k : Nat} {v : α} (h : b ≠ a) : up2 f a k v b = f b := by
  funext j
  simp [up2, h]
theorem W_putf {ci k a idx : Nat} {rest : List Value} {G' : GD} {I' : IM} {v : Value} (hd : decode (mB M) pc = .ok (.putfield idx, 3)) (hc : ci < 12) (hk : k < nfl ci) (hw : Cond.fieldLink (mY M).cls idx (RR ci) (TT ci k).2.1 (TT ci k).2.2.1 ∈ lw_tbl)
    (hfin : (TT ci k).2.2.2 = false ∨ (mY M).name = "<init>" ∧ RR ci = (mY M).cls) (hn : narrow (fty ci k) v = v) (hfit : fits (fty ci k) v = true)
    (C : CX M p s m args meth c) (hr : HR E G I s H) (hS0 : va_S (eAA E) s.heap H locs) (ha : okO G a ci)
    (hN : gN G' = gN G) (hC : gC G' = gC G) (hL : gL G' = gL G) (hsame : ∀ b, b ≠ a → gP G' b = gP G b ∧ gJ G' b = gJ G b ∧ I' b = I b)
    (hv : ∀ j, j < nfl ci → updV (fun k => vV E G I a (tcode (fty ci k)) k) k v j = vV E G' I' a (tcode (fty ci j)) j)
    (kk : ∀ H1 locs1, HR E G' I' s H1 → va_S (eAA E) s.heap H1 locs1 → W p (eL E) e R s m args below meth c H1 locs1 cells slots Qw (F0 m (pc + 3) ls rest)) : W p (eL E) e R s m args below meth c H locs cells slots Qw (F0 m pc ls (v :: .ref (ad E a) :: rest)) := by
  obtain ⟨ha, rfl⟩ := ha
  have hcl := cl_at hc
  have hap := va_apart (own := (mY M).cls) C.2.2.2.2.2.1 (cl_in hc) (fty (gC G a)) (cl_ty hc) (cl_nm hc) hr.K hcl
  obtain ⟨cell, q1, q2, q3, q4⟩ := (hr.2.2.1 a ha).1 hc
  obtain ⟨hS, hfc, kC, hkC, hkind⟩ := hr.K.1 _ _ hcl
  obtain ⟨cf, kf, fi, f, hi, hsl⟩ := hS k hk
  rw [ad_own hr ha]
  have hdc : (TT (gC G a) k).1 = RR (gC G a) := cl_dec0 _ hc k hk
  have hst := (u_facts hfc hkC (u_lays C.2.2.2.2.2.1 (cl_in hc) hk) hi).1
  have hlay := u_lays C.2.2.2.2.2.1 (cl_in hc) hk
  have fin : ∀ H', H'[eB E + a]? = some (cell.setSlot f.slot v) → H'.size = H.size → (∀ q, q ≠ eB E + a → H'[q]? = H[q]?) → W p (eL E) e R s m args below meth c H' (locs ++ [⟨eB E + a, f.slot⟩]) cells slots Qw (F0 m (pc + 3) ls rest) := by
    intro H' e1 e2 e3
    refine kk H' _ (hr.upd ha e2 e3 hN (fun b hb => ?_) ?_) (S_put hS0 e2 e3)
    · obtain ⟨x1, x2, x3⟩ := hsame b hb
      exact ⟨by rw [hC], by rw [hL], x1, x2, x3⟩
    · unfold cellOK
      rw [hC]
      refine ⟨fun _ => ⟨_, e1, q2, q3, fun j hj => ?_⟩, fun h => absurd h (by omega)⟩
      rw [hsl, t_set q4 hap hk v j hj, hv j hj]
  by_cases hff : (TT (gC G a) k).2.2.2 = false
  · have hl := C.2.2.2.2.2.1 _ (cl_in hc _ (u_in_lay hk))
    unfold u_lay at hl
    rw [if_neg (by rw [hff]; decide)] at hl
    have h6 := u_store hfc hkC hkind hl hi (cl_ty hc k hk) hn hfit
    exact W.putK C.1 C.2.1 (f := f) ⟨C.2.2.2.2.1, C.2.2.2.2.2.1 _ (inG hw rfl), ⟨_, _, _, by rw [← hdc]; exact hi⟩, hst⟩ (by rw [q2]; exact h6) q1 q3 (by rw [hsl]; exact k2_hasslot (q4 k hk)) rfl rfl hd fin
  · rcases hfin with h | ⟨h1, h2⟩
    · exact absurd h hff
    · have h6 := u_fits hfc hkC hkind hlay hi (cl_ty hc k hk) hn hfit
      have hl := C.2.2.2.2.2.1 _ (cl_in hc _ (u_in_lay hk))
      unfold u_lay at hl
      rw [if_pos (by simpa using hff)] at hl
      have hcf : m.cls = cf := by
        obtain ⟨_, _, c', _, _, _, -, -, hf', -, -, -, hown2, -⟩ := Cond.laysFinal_spec hl
        have e1 : c' = cf := by have := hi.symm.trans hf'; simp at this; exact this.1.symm
        rw [hdc, h2] at hown2
        rw [← e1]; exact Option.some.inj (C.2.2.2.2.1.symm.trans hown2)
      exact W.putFinK C.1 C.2.1 C.2.2.2.2.1 (C.2.2.2.2.2.1 _ (inG hw rfl)) (by rw [← hdc]; exact hi) hst hcf (C.2.2.2.2.2.2.2 h1) (by rw [q2]; exact h6) q1 q3 (by rw [hsl]; exact k2_hasslot (q4 k hk)) rfl rfl hd fin
theorem up2_at {α : Type} (f : Nat → Nat → α) (a k j : Nat) (v : α) : up2 f a k v a j = if j = k then v else f a j := by
  simp [up2]
theorem vV_putI (E : EV) (G : GD) (I : IM) (a ci k : Nat) (x : Int32) (ht : tcode (fty ci k) = 0) (j : Nat) : updV (fun k => vV E G I a (tcode (fty ci k)) k) k (.int x) j = vV E G (up2 I a k x) a (tcode (fty ci j)) j := by
  unfold updV
  by_cases e : j = k
  · subst e
    simp [ht, vV, up2]
  · simp only [e, if_false]
    unfold vV
    split <;> simp [up2, e]
theorem vV_putL (E : EV) (G : GD) (I : IM) (a ci k : Nat) (x : Int64) (ht : tcode (fty ci k) = 1) (j : Nat) : updV (fun k => vV E G I a (tcode (fty ci k)) k) k (.long x) j = vV E (gpJ G a k x) I a (tcode (fty ci j)) j := by
  unfold updV
  by_cases e : j = k
  · subst e
    simp [ht, vV, gpJ, gJ, up2]
  · simp only [e, if_false]
    unfold vV
    split <;> simp [gpJ, gJ, gP, up2, e]
theorem vV_putR (E : EV) (G : GD) (I : IM) (a ci k : Nat) (x : Nat) (ht : tcode (fty ci k) = 2) (j : Nat) : updV (fun k => vV E G I a (tcode (fty ci k)) k) k (.ref (ad E x)) j = vV E (gpP G a k (some x)) I a (tcode (fty ci j)) j := by
  unfold updV
  by_cases e : j = k
  · subst e
    simp [ht, vV, gpP, gP, up2, va_rf]
  · simp only [e, if_false]
    unfold vV
    split <;> simp [gpP, gJ, gP, up2, e]
theorem s_putI {ci k idx : Nat} (hd : decode (mB M) pc = .ok (.putfield idx, 3)) (hn : pc + 3 = nx) (hc : ci < 12) (hk : k < nfl ci) (ht : fty ci k = .int) (hf : (TT ci k).2.2.2 = false ∨ (mY M).name = "<init>" ∧ RR ci = (mY M).cls) (hw : Cond.fieldLink (mY M).cls idx (RR ci) (TT ci k).2.1 (TT ci k).2.2.1 ∈ lw_tbl) : SOp M pc (opPutI ci k nx) := by
  subst hn
  intro E d Q K hK lv st b G I h
  obtain ⟨x, r, rfl, h1⟩ := popI_e h
  obtain ⟨a, r, rfl, h0, h2⟩ := popR_e h1
  exact Ex.goH (fun C hl hr hS w => W_putf hd hc hk hw hf (by rw [ht]; rfl) (by rw [ht]; rfl) C hr hS h0 rfl rfl rfl (fun b hb => ⟨rfl, rfl, up2_ne hb⟩) (fun j _ => vV_putI E G I a ci k x (by rw [ht]; rfl) j) w) (hK _ _ _ _ _ _ h2)
theorem s_putZ {ci k idx : Nat} (hd : decode (mB M) pc = .ok (.putfield idx, 3)) (hn : pc + 3 = nx) (hc : ci < 12) (hk : k < nfl ci) (ht : fty ci k = .boolean) (hf : (TT ci k).2.2.2 = false ∨ (mY M).name = "<init>" ∧ RR ci = (mY M).cls) (hw : Cond.fieldLink (mY M).cls idx (RR ci) (TT ci k).2.1 (TT ci k).2.2.1 ∈ lw_tbl) : SOp M pc (opPutZ ci k nx) := by
  subst hn
  intro E d Q K hK lv st b G I h
  obtain ⟨x, r, rfl, h1⟩ := popI_e h
  obtain ⟨a, r, rfl, h0, hx, h2⟩ := popR_e h1
  exact Ex.goH (fun C hl hr hS w => W_putf hd hc hk hw hf (by rw [ht]; exact nar_bool hx) (by rw [ht]; rcases hx with rfl | rfl <;> rfl) C hr hS h0 rfl rfl rfl (fun b hb => ⟨rfl, rfl, up2_ne hb⟩) (fun j _ => vV_putI E G I a ci k x (by rw [ht]; rfl) j) w) (hK _ _ _ _ _ _ h2)
theorem s_putL {ci k idx : Nat} (hd : decode (mB M) pc = .ok (.putfield idx, 3)) (hn : pc + 3 = nx) (hc : ci < 12) (hk : k < nfl ci) (ht : fty ci k = .long) (hf : (TT ci k).2.2.2 = false ∨ (mY M).name = "<init>" ∧ RR ci = (mY M).cls) (hw : Cond.fieldLink (mY M).cls idx (RR ci) (TT ci k).2.1 (TT ci k).2.2.1 ∈ lw_tbl) : SOp M pc (opPutL ci k nx) := by
  subst hn
  intro E d Q K hK lv st b G I h
  obtain ⟨x, r, rfl, h1⟩ := popL_e h
  obtain ⟨a, r, rfl, h0, h2⟩ := popR_e h1
  exact Ex.goH (fun C hl hr hS w => W_putf (G' := gpJ G a k x) (I' := I) hd hc hk hw hf (by rw [ht]; rfl) (by rw [ht]; rfl) C hr hS h0 rfl rfl rfl (fun b hb => ⟨rfl, up2_ne hb, rfl⟩) (fun j _ => vV_putL E G I a ci k x (by rw [ht]; rfl) j) w) (hK _ _ _ _ _ _ h2)
theorem ref_fits {t : FieldType} (ht : tcode t = 2) (x : Nat) : narrow t (.ref x) = .ref x ∧ fits t (.ref x) = true := by
  cases t <;> simp [tcode, narrow, fits] at *
theorem s_putR {ci k idx : Nat} (hd : decode (mB M) pc = .ok (.putfield idx, 3)) (hn : pc + 3 = nx) (hc : ci < 12) (hk : k < nfl ci) (ht : tcode (fty ci k) = 2) (hf : (TT ci k).2.2.2 = false ∨ (mY M).name = "<init>" ∧ RR ci = (mY M).cls) (hw : Cond.fieldLink (mY M).cls idx (RR ci) (TT ci k).2.1 (TT ci k).2.2.1 ∈ lw_tbl) : SOp M pc (opPutR ci k nx) := by
  subst hn
  intro E d Q K hK lv st b G I h
  obtain ⟨x, r, rfl, h1⟩ := popR_e h
  obtain ⟨a, r, rfl, h0, h2⟩ := popR_e h1
  exact Ex.goH (fun C hl hr hS w => W_putf (G' := gpP G a k (some x)) (I' := I) hd hc hk hw hf (ref_fits ht _).1 (ref_fits ht _).2 C hr hS h0 rfl rfl rfl (fun b hb => ⟨up2_ne hb, rfl, rfl⟩) (fun j _ => vV_putR E G I a ci k x ht j) w) (hK _ _ _ _ _ _ h2)
/-! arrays -/
theorem vp_in.lt {i : Int32} {n : Nat} (h : vp_in i n) : i.toNatClampNeg < n := Nat.not_le.mp fun q => h (Or.inr q)
/-- an array that may be read: its cell -/
theorem rd_own {a t : Nat} {ty : FieldType} (hr : HR E G I s H) (ha : a < gN G) (hc : gC G a = t) (ht : 100 ≤ t) (hty : (eA E t, ty) ∈ tyl E) : ∃ cell, H[ad E a]? = some cell ∧ s.isArrayOf cell ty ∧ cell.vm ≠ .unknown ∧ cell.slots.size = gL G a ∧ ∀ i, i < gL G a → cell.slots[i]? = some (vV E G I a (acode t) i) := by
  rw [ad_own hr ha]
  have h1 := (hr.2.2.1 a ha).2 (by rw [hc]; exact ht)
  rw [hc] at h1
  obtain ⟨k, hk⟩ := List.mem_iff_getElem?.mp hty
  exact ⟨_, h1, (hr.K.2 k _ hk).1 _ _, (fun q => by cases q), arrV_size _ _ _, fun i hi => arrV_read _ _ hi⟩
theorem rd_int {a : Nat} (hr : HR E G I s H) (ha : okA G a) : ∃ cell, H[ad E a]? = some cell ∧ s.isArrayOf cell .int ∧ cell.vm ≠ .unknown ∧ gL G a ≤ cell.slots.size ∧ cell.slots.size.toInt32 = nI (gL G a) ∧ ∀ i, i < gL G a → cell.slots[i]? = some (.int (I a i)) := by
  obtain ⟨ha | ⟨h1, h2⟩, hc⟩ := ha
  · obtain ⟨cell, q1, q2, q3, q4, q5⟩ := rd_own hr ha hc (by decide) (ty := .int) (by simp [tyl])
    exact ⟨cell, q1, q2, q3, Nat.le_of_eq q4.symm, by rw [q4]; rfl, q5⟩
  · obtain ⟨-, cell, q1, q2, q3, q4, q5, q6, q7⟩ := hr.pg.1 (a - 100000) (by omega)
    rw [show 100000 + (a - 100000) = a by omega] at q4 q5 q6
    refine ⟨cell, ?_, q2, q3, q4, q5, q6⟩
    unfold ad
    rw [if_neg (by omega)]
    exact q1
theorem s_iaload (hd : decode (mB M) pc = .ok (.iaload, 1)) (hn : pc + 1 = nx) : SOp M pc (opIALoad nx) := by
  subst hn
  intro E d Q K hK lv st b G I h
  obtain ⟨i, r, rfl, h1⟩ := popI_e h
  obtain ⟨a, r, rfl, h0, hi, h2⟩ := popR_e h1
  refine Ex.go (fun C hl hr w => ?_) (hK _ _ _ _ _ _ h2)
  obtain ⟨cell, q1, q2, q3, q4, q5, q6⟩ := rd_int hr h0
  exact W.iald C.1 C.2.1 q1 q2 q3 (fun q => hi (q.imp id (Nat.le_trans q4))) (q6 _ hi.lt) rfl rfl hd w
theorem s_zaload (hd : decode (mB M) pc = .ok (.baload, 1)) (hn : pc + 1 = nx) : SOp M pc (opZALoad nx) := by
  subst hn
  intro E d Q K hK lv st b G I h
  obtain ⟨i, r, rfl, h1⟩ := popI_e h
  obtain ⟨a, r, rfl, ⟨h0, h00⟩, hi, h2⟩ := popR_e h1
  refine Ex.go (fun C hl hr w => ?_) (hK _ _ _ _ _ _ h2)
  obtain ⟨cell, q1, q2, q3, q4, q5⟩ := rd_own hr h0 h00 (by decide) (ty := .boolean) (by simp [tyl])
  exact W.zald C.1 C.2.1 q1 q2 q3 (by rw [q4]; exact hi) (q5 _ hi.lt) rfl rfl hd w
theorem s_laload (hd : decode (mB M) pc = .ok (.laload, 1)) (hn : pc + 1 = nx) : SOp M pc (opLALoad nx) := by
  subst hn
  intro E d Q K hK lv st b G I h
  obtain ⟨i, r, rfl, h1⟩ := popI_e h
  obtain ⟨a, r, rfl, ⟨h0, h00⟩, hi, h2⟩ := popR_e h1
  refine Ex.go (fun C hl hr w => ?_) (hK _ _ _ _ _ _ h2)
  obtain ⟨cell, q1, q2, q3, q4, q5⟩ := rd_own hr h0 h00 (by decide) (ty := .long) (by simp [tyl])
  exact W.lald C.1 C.2.1 q1 q2 q3 (by rw [q4]; exact hi) (q5 _ hi.lt) rfl rfl hd w
theorem s_aaload (hd : decode (mB M) pc = .ok (.aaload, 1)) (hn : pc + 1 = nx) : SOp M pc (opAALoad nx) := by
  subst hn
  intro E d Q K hK lv st b G I h
  obtain ⟨i, r, rfl, h1⟩ := popI_e h
  obtain ⟨a, r, rfl, ha, hi, h2⟩ := popR_e h1
  obtain ⟨q, hq, h3⟩ := asP_e h2
  refine Ex.go (fun C hl hr w => ?_) (hK _ _ _ _ _ _ h3)
  have e9 : ∀ t, 104 ≤ t → vV E G I a (acode t) i.toNatClampNeg = .ref (ad E q) := fun t ht => by
    have : acode t = 2 := by unfold acode; rw [if_neg (by omega), if_neg (by omega)]
    rw [this]
    show va_rf ((gP G a i.toNatClampNeg).map (ad E)) = _
    rw [hq]
    rfl
  rcases ha with ⟨h0, h00⟩ | ⟨h0, h00⟩
  · obtain ⟨cell, q1, q2, q3, q4, q5⟩ := rd_own hr h0 h00 (by decide) (ty := .object RX6) (by simp [tyl])
    exact W.aald C.1 C.2.1 q1 q2 rfl q3 (by rw [q4]; exact hi) (by rw [q5 _ hi.lt, e9 _ (by decide)]; rfl) rfl rfl hd w
  · obtain ⟨cell, q1, q2, q3, q4, q5⟩ := rd_own hr h0 h00 (by decide) (ty := .array .int) (by simp [tyl])
    exact W.aald C.1 C.2.1 q1 q2 rfl q3 (by rw [q4]; exact hi) (by rw [q5 _ hi.lt, e9 _ (by decide)]; rfl) rfl rfl hd w
theorem rd_byte {a : Nat} (hr : HR E G I s H) (ha : 100013 ≤ a ∧ a < 100017) : ∃ cell, H[ad E a]? = some cell ∧ s.isArrayOf cell .byte ∧ cell.vm ≠ .unknown ∧ gL G a ≤ cell.slots.size ∧ cell.slots.size.toInt32 = nI (gL G a) ∧ ∀ i, i < gL G a → cell.slots[i]? = some (.int (I a i)) := by
  obtain ⟨-, cell, q1, q2, q3, q4, q5, q6, q7⟩ := hr.pg.2.1 (a - 100013) (by omega)
  rw [show 100013 + (a - 100013) = a by omega] at q4 q5 q6
  refine ⟨cell, ?_, q2, q3, q4, q5, q6⟩
  unfold ad
  rw [if_neg (by omega), show a - 100000 = 13 + (a - 100013) by omega]
  exact q1
theorem s_baload (hd : decode (mB M) pc = .ok (.baload, 1)) (hn : pc + 1 = nx) : SOp M pc (opBALoad nx) := by
  subst hn
  intro E d Q K hK lv st b G I h
  obtain ⟨i, r, rfl, h1⟩ := popI_e h
  obtain ⟨a, r, rfl, h0, hi, h2⟩ := popR_e h1
  refine Ex.go (fun C hl hr w => ?_) (hK _ _ _ _ _ _ h2)
  obtain ⟨cell, q1, q2, q3, q4, q5, q6⟩ := rd_byte hr h0
  exact W.bald C.1 C.2.1 q1 q2 q3 (fun q => hi (q.imp id (Nat.le_trans q4))) (q6 _ hi.lt) rfl rfl hd w
theorem s_alen (hd : decode (mB M) pc = .ok (.arraylength, 1)) (hn : pc + 1 = nx) : SOp M pc (opALen nx) := by
  subst hn
  intro E d Q K hK lv st b G I h
  obtain ⟨a, r, rfl, h0, h2⟩ := popR_e h
  refine Ex.go (fun C hl hr w => ?_) (hK _ _ _ _ _ _ h2)
  rcases h0 with h0 | h0 | ⟨h0, h00⟩
  · obtain ⟨cell, q1, q2, q3, q4, q5, q6⟩ := rd_int hr h0
    exact W.alen C.1 C.2.1 q1 q2 q5 rfl rfl hd w
  · obtain ⟨cell, q1, q2, q3, q4, q5, q6⟩ := rd_byte hr h0
    exact W.alen C.1 C.2.1 q1 q2 q5 rfl rfl hd w
  · obtain ⟨cell, q1, q2, q3, q4, q5⟩ := rd_own hr h0 h00 (by decide) (ty := .object RX6) (by simp [tyl])
    exact W.alen C.1 C.2.1 q1 q2 (by rw [q4]; rfl) rfl rfl hd w
theorem HR.arr {a t : Nat} {G' : GD} {I' : IM} {H1 : Heap} {j : Nat} {v : Value} (hr : HR E G I s H) (ha : a < gN G) (hc : gC G a = t) (ht : 100 ≤ t) (e1 : H1[eB E + a]? = some ((arrV (eA E t) (gL G a) (fun k => vV E G I a (acode t) k)).setSlot j v)) (z : H1.size = H.size) (oq : ∀ q, q ≠ eB E + a → H1[q]? = H[q]?)
    (hN : gN G' = gN G) (hC : gC G' = gC G) (hL : gL G' = gL G) (hsame : ∀ b, b ≠ a → gP G' b = gP G b ∧ gJ G' b = gJ G b ∧ I' b = I b) (hv : ∀ k, updV (fun k => vV E G I a (acode t) k) j v k = vV E G' I' a (acode t) k) : HR E G' I' s H1 := by
  refine hr.upd ha z oq hN (fun b hb => ?_) ?_
  · obtain ⟨x1, x2, x3⟩ := hsame b hb
    exact ⟨by rw [hC], by rw [hL], x1, x2, x3⟩
  · unfold cellOK
    rw [hC, hL, hc]
    refine ⟨fun h => absurd h (by omega), fun _ => ?_⟩
    rw [e1, arrV_store]
    congr 2
    funext k
    exact hv k
theorem s_iastore (hd : decode (mB M) pc = .ok (.iastore, 1)) (hn : pc + 1 = nx) : SOp M pc (opIAStore nx) := by
  subst hn
  intro E d Q K hK lv st b G I h
  obtain ⟨x, r, rfl, h1⟩ := popI_e h
  obtain ⟨i, r, rfl, h2⟩ := popI_e h1
  obtain ⟨a, r, rfl, ⟨h0, h00⟩, hi, h3⟩ := popR_e h2
  refine Ex.goH (fun C hl hr hS w => ?_) (hK _ _ _ _ _ _ h3)
  have h1 := (hr.2.2.1 a h0).2 (by rw [h00]; decide)
  rw [h00] at h1
  simp only [List.map_cons, tr, ad_own hr h0]
  refine W.iast C.1 C.2.1 h1 ((hr.K.2 0 _ rfl).1 _ _) (fun q => by cases q) (by rw [arrV_size]; exact hi) rfl rfl hd fun H1 e z oq => ?_
  refine w H1 _ (hr.arr h0 h00 (by decide) e z oq rfl rfl rfl (fun b hb => ⟨rfl, rfl, up2_ne hb⟩) (fun k => ?_)) (S_put hS z oq)
  show updV (fun k => .int (I a k)) _ _ k = .int (up2 I a _ x a k)
  unfold updV up2
  by_cases e : k = i.toNatClampNeg <;> simp [e]
theorem s_zastore (hd : decode (mB M) pc = .ok (.bastore, 1)) (hn : pc + 1 = nx) : SOp M pc (opZAStore nx) := by
  subst hn
  intro E d Q K hK lv st b G I h
  obtain ⟨x, r, rfl, h1⟩ := popI_e h
  obtain ⟨i, r, rfl, h2⟩ := popI_e h1
  obtain ⟨a, r, rfl, ⟨h0, h00⟩, hi, hx, h3⟩ := popR_e h2
  refine Ex.goH (fun C hl hr hS w => ?_) (hK _ _ _ _ _ _ h3)
  have h1 := (hr.2.2.1 a h0).2 (by rw [h00]; decide)
  rw [h00] at h1
  simp only [List.map_cons, tr, ad_own hr h0]
  refine W.zast C.1 C.2.1 h1 ((hr.K.2 2 _ rfl).1 _ _) (fun q => by cases q) (by rw [arrV_size]; exact hi) rfl rfl hd fun H1 e z oq => ?_
  refine w H1 _ (hr.arr h0 h00 (by decide) e z oq rfl rfl rfl (fun b hb => ⟨rfl, rfl, up2_ne hb⟩) (fun k => ?_)) (S_put hS z oq)
  show updV (fun k => .int (I a k)) _ _ k = .int (up2 I a _ x a k)
  unfold updV up2
  by_cases e : k = i.toNatClampNeg
  · simp only [e, if_true]
    exact nar_bool hx
  · simp [e]
theorem s_lastore (hd : decode (mB M) pc = .ok (.lastore, 1)) (hn : pc + 1 = nx) : SOp M pc (opLAStore nx) := by
  subst hn
  intro E d Q K hK lv st b G I h
  obtain ⟨x, r, rfl, h1⟩ := popL_e h
  obtain ⟨i, r, rfl, h2⟩ := popI_e h1
  obtain ⟨a, r, rfl, ⟨h0, h00⟩, hi, h3⟩ := popR_e h2
  refine Ex.goH (fun C hl hr hS w => ?_) (hK _ _ _ _ _ _ h3)
  have h1 := (hr.2.2.1 a h0).2 (by rw [h00]; decide)
  rw [h00] at h1
  simp only [List.map_cons, tr, ad_own hr h0]
  refine W.last C.1 C.2.1 h1 ((hr.K.2 1 _ rfl).1 _ _) (fun q => by cases q) (by rw [arrV_size]; exact hi) rfl rfl hd fun H1 e z oq => ?_
  refine w H1 _ (hr.arr (G' := gpJ G a i.toNatClampNeg x) h0 h00 (by decide) e z oq rfl rfl rfl (fun b hb => ⟨rfl, up2_ne hb, rfl⟩) (fun k => ?_)) (S_put hS z oq)
  show updV (fun k => .long (gJ G a k)) _ _ k = .long (up2 _ a _ x a k)
  unfold updV up2
  by_cases e : k = i.toNatClampNeg <;> simp [e, gJ]
/-! statics and texts -/
theorem s_getS {j idx : Nat} (hd : decode (mB M) pc = .ok (.getstatic idx, 3)) (hn : pc + 3 = nx) (hj : j < 6) (hw : Cond.fieldLink (mY M).cls idx RX9 (snm j) "[I" ∈ lw_tbl) : SOp M pc (opGetS j nx) := by
  subst hn
  intro E d Q K hK lv st b G I h
  refine Ex.go (fun C hl hr w => ?_) (hK _ _ _ _ _ _ h)
  obtain ⟨cf, kf, fi, f, a, cell, h1, h2, h3, h4, h5, h6, h7, h8⟩ := hr.pg.2.2.1 j hj
  have e9 : tr E (.ref (100001 + j)) = .ref (ePr E (1 + j)) := by
    show Value.ref (ad E (100001 + j)) = _
    unfold ad
    rw [if_neg (by omega), show 100001 + j - 100000 = 1 + j by omega]
  simp only [List.map_cons, e9] at w
  exact W.gets C.1 C.2.1 C.2.2.2.2.1 (C.2.2.2.2.2.1 _ (inG hw rfl)) h1 h2 h3 h4 h5 (fun e => by rw [e] at h6; cases h6) h7 rfl hd w
theorem s_getC {idx : Nat} (hd : decode (mB M) pc = .ok (.getstatic idx, 3)) (hn : pc + 3 = nx) (hw : Cond.fieldLink (mY M).cls idx "java/lang/String" "COMPACT_STRINGS" "Z" ∈ lw_tbl) : SOp M pc (opGetC nx) := by
  subst hn
  intro E d Q K hK lv st b G I h
  refine Ex.go (fun C hl hr w => ?_) (hK _ _ _ _ _ _ h)
  obtain ⟨cf, kf, fi, f, a, cell, h1, h2, h3, h4, h5, h6, h7, h8⟩ := hr.pg.2.2.2.1
  exact W.gets C.1 C.2.1 C.2.2.2.2.1 (C.2.2.2.2.2.1 _ (inG hw rfl)) h1 h2 h3 h4 h5 (fun e => by rw [e] at h6; cases h6) h7 rfl hd w
theorem str_j {a : Nat} (h : 100007 ≤ a ∧ a < 100011) : ∃ j, j < 4 ∧ a = 100007 + j := ⟨a - 100007, by omega, by omega⟩
theorem str_1 (j : Nat) : 100007 + j - 100000 = 7 + j := by omega
theorem str_2 (j : Nat) : 100007 + j + 6 - 100000 = 13 + j := by omega
theorem s_strC {idx : Nat} (hd : decode (mB M) pc = .ok (.getfield idx, 3)) (hn : pc + 3 = nx) (hw : Cond.fieldLink (mY M).cls idx "java/lang/String" "coder" "B" ∈ lw_tbl) : SOp M pc (opStrC nx) := by
  subst hn
  intro E d Q K hK lv st b G I h
  obtain ⟨a, r, rfl, h0, h2⟩ := popR_e h
  obtain ⟨j, hj, rfl⟩ := str_j h0
  refine Ex.go (fun C hl hr w => ?_) (hK _ _ _ _ _ _ h2)
  obtain ⟨-, -, -, ⟨cf, k, fi, f, cell, h1, h2, h3, h4, h5, h6⟩, -⟩ := hr.pg.2.2.2.2.1 j hj
  have e9 : tr E (.ref (100007 + j)) = .ref (ePr E (7 + j)) := by
    show Value.ref (ad E (100007 + j)) = _
    unfold ad
    rw [if_neg (by omega), str_1 j]
  simp only [List.map_cons, e9]
  exact W.getf C.1 C.2.1 C.2.2.2.2.1 (C.2.2.2.2.2.1 _ (inG hw rfl)) h1 h2 h3 h4 h5 rfl rfl hd w
theorem s_strV {idx : Nat} (hd : decode (mB M) pc = .ok (.getfield idx, 3)) (hn : pc + 3 = nx) (hw : Cond.fieldLink (mY M).cls idx "java/lang/String" "value" "[B" ∈ lw_tbl) : SOp M pc (opStrV nx) := by
  subst hn
  intro E d Q K hK lv st b G I h
  obtain ⟨a, r, rfl, h0, h2⟩ := popR_e h
  obtain ⟨j, hj, rfl⟩ := str_j h0
  refine Ex.go (fun C hl hr w => ?_) (hK _ _ _ _ _ _ h2)
  obtain ⟨-, -, -, -, ⟨cf, k, fi, f, cell, h1, h2, h3, h4, h5, h6⟩⟩ := hr.pg.2.2.2.2.1 j hj
  have e9 : tr E (.ref (100007 + j)) = .ref (ePr E (7 + j)) := by
    show Value.ref (ad E (100007 + j)) = _
    unfold ad
    rw [if_neg (by omega), str_1 j]
  have e8 : tr E (.ref (100007 + j + 6)) = .ref (ePr E (13 + j)) := by
    show Value.ref (ad E (100007 + j + 6)) = _
    unfold ad
    rw [if_neg (by omega), str_2 j]
  simp only [List.map_cons, e9]
  simp only [List.map_cons, e8] at w
  exact W.getf C.1 C.2.1 C.2.2.2.2.1 (C.2.2.2.2.2.1 _ (inG hw rfl)) h1 h2 h3 h4 h5 rfl rfl hd w
end
