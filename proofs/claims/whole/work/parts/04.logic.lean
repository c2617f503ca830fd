/-! ===== what holds of memory, and the judgement of a walk ===== -/
def vV (E : EV) (G : GD) (I : IM) (a t k : Nat) : Value := match t with
  | 0 => .int (I a k)
  | 1 => .long (gJ G a k)
  | _ => va_rf ((gP G a k).map (ad E))
def cellOK (E : EV) (G : GD) (I : IM) (H : Heap) (a : Nat) : Prop :=
  (gC G a < 12 → t_OB (eB E + a) ((eD E).1 (gC G a)) (nfl (gC G a)) ((eD E).2 (gC G a)) H (fun k => vV E G I a (tcode (fty (gC G a) k)) k)) ∧
  (100 ≤ gC G a → H[eB E + a]? = some (arrV (eA E (gC G a)) (gL G a) (fun k => vV E G I a (acode (gC G a)) k)))
def tyl (E : EV) : List (ClassId × FieldType) := [(eA E 100, .int), (eA E 101, .long), (eA E 102, .boolean), (eA E 104, .object RX6), (eA E 105, .array .int)]
def snm (j : Nat) : String := match j with
  | 0 => "RULE_LEAST" | 1 => "RULE_MOST" | 2 => "PERSON_LEAST" | 3 => "PERSON_MOST" | 4 => "GRUDGE_LEAST" | _ => "GRUDGE_MOST"
/-- the text constants: whose, at which entry, what, the number of the cell -/
def sown (j : Nat) : String := match j with
  | 0 => RX9 | 1 => RX9 | 2 => RX9 | 3 => RX2 | 4 => RX1 | 5 => RX10 | _ => RX10
def sidx (j : Nat) : Nat := match j with
  | 0 => 25 | 1 => 106 | 2 => 118 | 3 => 22 | 4 => 85 | 5 => 173 | _ => 196
def stxt (j : Nat) : String := match j with
  | 0 => "oawk" | 1 => "fk" | 2 => "tl" | 3 => "tlnmsd" | 4 => "tlnmsd" | 5 => "no such person" | _ => "no such thing of a person"
def sid (j : Nat) : Nat := match j with
  | 0 => 7 | 1 => 8 | 2 => 9 | 3 => 10 | 4 => 10 | 5 => 11 | _ => 12
/-- the words of nest mates -/
def isNest : Cond → Bool
  | .methodLinkNest _ _ _ _ => true
  | .declares _ => true
  | .castable _ _ => true
  | _ => false
def lw_n : List Cond := lw_tbl.filter isNest
theorem nest_warm {w : Cond} (hw : w ∈ lw_n) {s U : State} (hW : s.WarmedH U.vm) (h : va_Nw w s) : va_Nw w U := by
  have hn := (List.mem_filter.mp hw).2
  cases w with
  | methodLinkNest a i x y => exact h.warmM hW
  | declares x => exact va_tabs rfl (rfl : (s.setVm U.vm).vm = U.vm) (by rw [Cond.declares_setVm hW.alike]; exact h)
  | castable x y => exact h.warmC hW
  | _ => exact absurd hn (by simp [isNest])
def PG (E : EV) (G : GD) (I : IM) (U : State) (H : Heap) : Prop :=
  (∀ j, j < 7 → gC G (100000 + j) = 100 ∧ va_T .int (ePr E j) (gL G (100000 + j)) (fun k => .int (I (100000 + j) k)) (eAA E) U H) ∧
  (∀ j, j < 4 → gC G (100013 + j) = 103 ∧ va_T .byte (ePr E (13 + j)) (gL G (100013 + j)) (fun k => .int (I (100013 + j) k)) (eAA E) U H) ∧
  (∀ j, j < 6 → va_Z RX9 (snm j) "[I" (.ref (ePr E (1 + j))) (eAA E) U H) ∧
  va_Z "java/lang/String" "COMPACT_STRINGS" "Z" (.int 1) (eAA E) U H ∧
  (∀ j, j < 4 → gC G (100007 + j) = 50 ∧ gP G (100007 + j) 0 = some (100013 + j) ∧ va_O "java/lang/String" (ePr E (7 + j)) (eAA E) U H ∧ va_OF "java/lang/String" "coder" "B" (.int 0) (ePr E (7 + j)) (eAA E) U H ∧ va_OF "java/lang/String" "value" "[B" (.ref (ePr E (13 + j))) (ePr E (7 + j)) (eAA E) U H) ∧
  (∀ j, j < 7 → vk_R (sown j) (sidx j) (stxt j) (ePr E (sid j)) U) ∧
  vx_Zq "java/lang/Throwable" "UNASSIGNED_STACK" "[Ljava/lang/StackTraceElement;" (eAA E) U H ∧
  vx_Zq "java/lang/Throwable" "SUPPRESSED_SENTINEL" "Ljava/util/List;" (eAA E) U H ∧
  (∀ w ∈ lw_n, va_Nw w U) ∧ va_AO RX6 U ∧ (Cond.arrayOver (.array .int)).before #[] U = true
/-- what two memories say of the given cells is the same -/
def sameP (G : GD) (I : IM) (G' : GD) (I' : IM) : Prop := ∀ i, 100000 ≤ i → gC G' i = gC G i ∧ gL G' i = gL G i ∧ gP G' i = gP G i ∧ I' i = I i
theorem sameP.rf {G : GD} {I : IM} : sameP G I G I := fun _ _ => ⟨rfl, rfl, rfl, rfl⟩
theorem Zq_moved {C n d : String} {A : Nat → Prop} {u U : State} {H : Heap} (hvm : u.vm.Alike U.vm) (h : va_Zq C n d A u H) : va_Zq C n d A U H := by
  rcases h with h | ⟨t, h⟩
  · exact Or.inl (h.moved hvm)
  · exact Or.inr ⟨t, h.moved hvm⟩
theorem Zq_kept {C n d : String} {A : Nat → Prop} {U : State} {H H1 : Heap} (h : va_Zq C n d A U H) (hq : ∀ a : Nat, a < H.size → ¬ A a → H1[a]? = H[a]?) : va_Zq C n d A U H1 := by
  rcases h with h | ⟨t, h⟩
  · exact Or.inl (h.kept hq)
  · exact Or.inr ⟨t, h.kept hq⟩
theorem PG.step {E : EV} {G G' : GD} {I I' : IM} {s U : State} {H H1 : Heap} (h : PG E G I s H) (hp : sameP G I G' I') (hW : s.WarmedH U.vm) (hq : ∀ a : Nat, a < H.size → ¬ eAA E a → H1[a]? = H[a]?) : PG E G' I' U H1 := by
  obtain ⟨h1, h2, h3, h4, h5, h6, h7, h8, h9, h10, h11⟩ := h
  have al := hW.alike
  refine ⟨fun j hj => ?_, fun j hj => ?_, fun j hj => ((h3 j hj).moved al).kept hq, (h4.moved al).kept hq, fun j hj => ?_, fun j hj => (h6 j hj).warm hW, (vx_Zq.moved al h7).kept hq, (vx_Zq.moved al h8).kept hq, fun w hw => nest_warm hw hW (h9 w hw), h10.moved al, over_moved al h11⟩
  · obtain ⟨e1, e2, e3, e4⟩ := hp (100000 + j) (by omega)
    obtain ⟨g1, g2⟩ := h1 j hj
    rw [e1, e2, e4]
    exact ⟨g1, (g2.moved al).kept hq⟩
  · obtain ⟨e1, e2, e3, e4⟩ := hp (100013 + j) (by omega)
    obtain ⟨g1, g2⟩ := h2 j hj
    rw [e1, e2, e4]
    exact ⟨g1, (g2.moved al).kept hq⟩
  · obtain ⟨e1, e2, e3, e4⟩ := hp (100007 + j) (by omega)
    obtain ⟨g1, g2, g3, g4, g5⟩ := h5 j hj
    rw [e1, e3]
    exact ⟨g1, g2, (g3.moved al).kept hq, (g4.moved al).kept hq, (g5.moved al).kept hq⟩
def HR (E : EV) (G : GD) (I : IM) (U : State) (H : Heap) : Prop :=
  H.size = eB E + gN G ∧ gN G ≤ 100000 ∧ (∀ a, a < gN G → cellOK E G I H a) ∧ va_K (eD E) vwCl (tyl E) U ∧ sameP (eG E) (eI E) G I ∧ PG E (eG E) (eI E) U H
theorem HR.pg {E : EV} {G : GD} {I : IM} {s : State} {H : Heap} (h : HR E G I s H) : PG E G I s H := h.2.2.2.2.2.step h.2.2.2.2.1 (State.WarmedH.refl s) (fun _ _ _ => rfl)
theorem HR.moved {E : EV} {G : GD} {I : IM} {s U : State} {H : Heap} (h : HR E G I s H) (hW : s.WarmedH U.vm) : HR E G I U H :=
  ⟨h.1, h.2.1, h.2.2.1, va_K.moved hW.alike h.2.2.2.1, h.2.2.2.2.1, h.2.2.2.2.2.step sameP.rf hW (fun _ _ _ => rfl)⟩
theorem vV_eq {E : EV} {G G' : GD} {I I' : IM} {b : Nat} (h2 : gP G' b = gP G b) (h3 : gJ G' b = gJ G b) (h4 : I' b = I b) (t : Nat) : vV E G' I' b t = vV E G I b t := by
  funext k
  unfold vV
  rw [h2, h3, h4]
theorem cellOK.kept {E : EV} {G G' : GD} {I I' : IM} {H H1 : Heap} {b : Nat} (h : cellOK E G I H b) (hq : H1[eB E + b]? = H[eB E + b]?) (h0 : gC G' b = gC G b) (h1 : gL G' b = gL G b) (h2 : gP G' b = gP G b) (h3 : gJ G' b = gJ G b) (h4 : I' b = I b) : cellOK E G' I' H1 b := by
  unfold cellOK at *
  rw [h0, h1, hq]
  refine ⟨fun hc => ?_, fun hc => ?_⟩
  · have := (h.1 hc).kept hq
    refine this.to (fun k _ => ?_)
    rw [vV_eq h2 h3 h4]
  · rw [vV_eq h2 h3 h4]
    exact h.2 hc
theorem HR.upd {E : EV} {G G' : GD} {I I' : IM} {s : State} {H H1 : Heap} {a : Nat} (h : HR E G I s H) (ha : a < gN G) (hz : H1.size = H.size) (ho : ∀ q, q ≠ eB E + a → H1[q]? = H[q]?) (hN : gN G' = gN G)
    (hsame : ∀ b, b ≠ a → gC G' b = gC G b ∧ gL G' b = gL G b ∧ gP G' b = gP G b ∧ gJ G' b = gJ G b ∧ I' b = I b) (hc : cellOK E G' I' H1 a) : HR E G' I' s H1 := by
  refine ⟨by rw [hz, hN]; exact h.1, by rw [hN]; exact h.2.1, fun b hb => ?_, h.2.2.2.1, (fun i hi => ?_), h.2.2.2.2.2.step sameP.rf (State.WarmedH.refl s) (fun q _ hq => ho q (fun e => hq (by rw [e]; exact Nat.le_add_right _ _)))⟩
  · by_cases e : b = a
    · rw [e]; exact hc
    · obtain ⟨e0, e1, e2, e3, e4⟩ := hsame b e
      exact (h.2.2.1 b (by rw [← hN]; exact hb)).kept (ho _ (by omega)) e0 e1 e2 e3 e4
  · have := h.2.1
    obtain ⟨e0, e1, e2, e3, e4⟩ := hsame i (by omega)
    obtain ⟨g0, g1, g2, g4⟩ := h.2.2.2.2.1 i hi
    exact ⟨e0.trans g0, e1.trans g1, e2.trans g2, e4.trans g4⟩
/-- a method: its name, its bytes, its locals, what it returns -/
abbrev MI : Type := MethodName × ByteArray × Nat × Option FieldType
def mY (M : MI) : MethodName := M.1
def mB (M : MI) : ByteArray := M.2.1
def mX (M : MI) : Nat := M.2.2.1
def mR (M : MI) : Option FieldType := M.2.2.2
def CX (M : MI) (p : Program) (s : State) (m : MethodId) (args : Array Value) (meth : Method) (c : Code) : Prop :=
  p.tables.exec = Jvm.exec ∧ c.code = mB M ∧ meth.sig.returnType = mR M ∧ c.maxLocals = mX M ∧ s.vm.findClass (mY M).cls = some m.cls ∧ (∀ w ∈ lw_g, w.before args s = true) ∧ meth.locks = false ∧ ((mY M).name = "<init>" → meth.name = "<init>")
/-- locals: what is known of each place -/
abbrev LVs : Type := List (Option Value)
def gi : LVs → Nat → Option Value
  | [], _ => none
  | x :: _, 0 => x
  | _ :: r, i + 1 => gi r i
def si : LVs → Nat → Option Value → LVs
  | [], _, _ => []
  | _ :: r, 0, v => v :: r
  | x :: r, i + 1, v => x :: si r i v
def isW (v : Option Value) : Bool := match v with
  | some (.long _) => true
  | some (.double _) => true
  | _ => false
def noL : LVs → Nat → Bool
  | _, 0 => true
  | l, i + 1 => !(isW (gi l i))
def LV (E : EV) (ls : Array Slot) (n : Nat) (lv : LVs) : Prop := ls.size = n ∧ lv_wf ls ∧ ∀ i v, gi lv i = some v → ls[i]? = some (.val (tr E v))
def QE (E : EV) (Q : Option Value → GD → IM → Prop) : Array Value → State → Outcome → State → Prop := fun _ st o t =>
  (∃ r G I, o = .returned (r.map (tr E)) ∧ Q r G I ∧ HR E G I t t.heap) ∧ va_F (eAA E) st t
/-- THE JUDGEMENT: in any call of M (depth d of room left), at pc with these locals, stack, room for cells, memory, the machine comes to M's end with Q -/
def Ex (E : EV) (d : Nat) (M : MI) (Q : Option Value → GD → IM → Prop) (pc : Nat) (lv : LVs) (st : List Value) (b : Nat × Nat) (G : GD) (I : IM) : Prop :=
  ∀ (p : Program) (e : Env) (R : Room) (s : State) (m : MethodId) (args : Array Value) (below : List Frame) (meth : Method) (c : Code) (H : Heap) (locs : List Loc) (cells slots mc ms : Nat) (ls : Array Slot),
    CX M p s m args meth c → HR E G I s H → va_S (eAA E) s.heap H locs → eB E ≤ s.heap.size → d ≤ R.frames → 64 * d ≤ R.locals → cells + b.1 ≤ mc → slots + b.2 ≤ ms → mc ≤ R.cells → ms ≤ R.slots → LV E ls (mX M) lv →
    W p (eL E) e R s m args below meth c H locs cells slots (MQ below (QE E Q) args s mc ms (eAA E)) (F0 m pc ls (st.map (tr E)))
/-- a step that touches neither memory nor locals -/
theorem Ex.go {E : EV} {d : Nat} {M : MI} {Q : Option Value → GD → IM → Prop} {pc nx : Nat} {lv : LVs} {st st' : List Value} {b : Nat × Nat} {G : GD} {I : IM}
    (f : ∀ {p : Program} {e : Env} {R : Room} {s : State} {m : MethodId} {args : Array Value} {below : List Frame} {meth : Method} {c : Code} {H : Heap} {locs : List Loc} {cells slots : Nat} {Qw : State → Prop} {ls : Array Slot},
      CX M p s m args meth c → LV E ls (mX M) lv → HR E G I s H → W p (eL E) e R s m args below meth c H locs cells slots Qw (F0 m nx ls (st'.map (tr E))) → W p (eL E) e R s m args below meth c H locs cells slots Qw (F0 m pc ls (st.map (tr E))))
    (h : Ex E d M Q nx lv st' b G I) : Ex E d M Q pc lv st b G I :=
  fun p e R s m args below meth c H locs cells slots mc ms ls C hr h1 h2 h3 h4 h5 h6 h7 h8 hl => f C hl hr (h p e R s m args below meth c H locs cells slots mc ms ls C hr h1 h2 h3 h4 h5 h6 h7 h8 hl)
/-- what is known of the locals may be forgotten -/
def wk : LVs → LVs → Prop
  | [], _ => True
  | none :: r, [] => wk r []
  | none :: r, _ :: r' => wk r r'
  | some _ :: _, [] => False
  | some v :: r, x :: r' => x = some v ∧ wk r r'
theorem gi_nil (i : Nat) : gi [] i = none := by cases i <;> rfl
theorem wk_gi : ∀ (l l' : LVs), wk l l' → ∀ i v, gi l i = some v → gi l' i = some v
  | [], _, _, i, v, h => by rw [gi_nil] at h; cases h
  | none :: r, [], hw, 0, v, h => by cases h
  | none :: r, [], hw, i + 1, v, h => by have := wk_gi r [] hw i v h; rw [gi_nil] at this; cases this
  | none :: r, _ :: r', hw, 0, v, h => by cases h
  | none :: r, _ :: r', hw, i + 1, v, h => wk_gi r r' hw i v h
  | some _ :: _, [], hw, _, _, _ => hw.elim
  | some w :: r, x :: r', hw, 0, v, h => by rw [hw.1]; exact h
  | some w :: r, x :: r', hw, i + 1, v, h => wk_gi r r' hw.2 i v h
theorem Ex.weak {E : EV} {d : Nat} {M : MI} {Q : Option Value → GD → IM → Prop} {pc : Nat} {lv lv' : LVs} {st : List Value} {b : Nat × Nat} {G : GD} {I : IM} (h : Ex E d M Q pc lv' st b G I) (hw : wk lv' lv) : Ex E d M Q pc lv st b G I :=
  fun p e R s m args below meth c H locs cells slots mc ms ls C hr h1 h2 h3 h4 h5 h6 h7 h8 hl => h p e R s m args below meth c H locs cells slots mc ms ls C hr h1 h2 h3 h4 h5 h6 h7 h8 ⟨hl.1, hl.2.1, fun i v hv => hl.2.2 i v (wk_gi lv' lv hw i v hv)⟩
theorem Ex.mono {E : EV} {d : Nat} {M : MI} {Q Q' : Option Value → GD → IM → Prop} {pc : Nat} {lv : LVs} {st : List Value} {b : Nat × Nat} {G : GD} {I : IM} (h : Ex E d M Q pc lv st b G I) (hq : ∀ r G I, Q r G I → Q' r G I) : Ex E d M Q' pc lv st b G I := by
  intro p e R s m args below meth c H locs cells slots mc ms ls C hr h1 h2 h3 h4 h5 h6 h7 h8 hl T hT X
  obtain ⟨t, st1, o, a1, a2, ⟨⟨r, G', I', a3, a4, a5⟩, a6⟩, a7⟩ := h p e R s m args below meth c H locs cells slots mc ms ls C hr h1 h2 h3 h4 h5 h6 h7 h8 hl T hT X
  exact ⟨t, st1, o, a1, a2, ⟨⟨r, G', I', a3, hq _ _ _ a4, a5⟩, a6⟩, a7⟩
theorem ad_own {E : EV} {G : GD} {I : IM} {s : State} {H : Heap} {a : Nat} (h : HR E G I s H) (ha : a < gN G) : ad E a = eB E + a := by
  unfold ad
  rw [if_pos (Nat.lt_of_lt_of_le ha h.2.1)]
/-- behind a call: what the callee leaves, at the caller's own start -/
theorem HR.back {E : EV} {G G' : GD} {I I' : IM} {s t : State} {H : Heap} (h : HR E G I s H) (h' : HR E G' I' t t.heap) (hk : ∀ q : Nat, q < H.size → ¬ eAA E q → t.heap[q]? = H[q]?) : HR E G' I' s t.heap :=
  ⟨h'.1, h'.2.1, h'.2.2.1, h.2.2.2.1, h'.2.2.2.2.1, h.2.2.2.2.2.step sameP.rf (State.WarmedH.refl s) hk⟩
