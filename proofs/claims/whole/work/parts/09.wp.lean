/-! ===== straight stretches by reckoning ===== -/
def isS : List Nat → Nat → Prop
  | [], _ => False
  | x :: r, p => p = x ∨ isS r p
theorem isS_0 (p : Nat) : isS [] p = False := rfl
theorem isS_s (x p : Nat) (r : List Nat) : isS (x :: r) p = (p = x ∨ isS r p) := rfl
/-- n steps by the table T; at the places ss (and behind n steps) what is left is S -/
def wp (T : Nat → OP) (ss : List Nat) (E : EV) (d : Nat) (Q : QT) (S : KT) : Nat → KT
  | 0 => S
  | n + 1 => fun pc lv st b G I => (isS ss pc → S pc lv st b G I) ∧ (¬ isS ss pc → T pc E d Q (wp T ss E d Q S n) lv st b G I)
theorem wp_0 (T : Nat → OP) (ss : List Nat) (E : EV) (d : Nat) (Q : QT) (S : KT) (pc : Nat) (lv : LVs) (st : List Value) (b : Nat × Nat) (G : GD) (I : IM) : wp T ss E d Q S 0 pc lv st b G I = S pc lv st b G I := rfl
theorem wp_s (T : Nat → OP) (ss : List Nat) (E : EV) (d : Nat) (Q : QT) (S : KT) (n pc : Nat) (lv : LVs) (st : List Value) (b : Nat × Nat) (G : GD) (I : IM) : wp T ss E d Q S (n + 1) pc lv st b G I = ((isS ss pc → S pc lv st b G I) ∧ (¬ isS ss pc → T pc E d Q (wp T ss E d Q S n) lv st b G I)) := rfl
def TOK (M : MI) (T : Nat → OP) : Prop := ∀ pc, SOp M pc (T pc)
theorem wp_ok {M : MI} {T : Nat → OP} (h : TOK M T) {ss : List Nat} {E : EV} {d : Nat} {Q : QT} : ∀ (n pc : Nat) (lv : LVs) (st : List Value) (b : Nat × Nat) (G : GD) (I : IM), wp T ss E d Q (Ex E d M Q) n pc lv st b G I → Ex E d M Q pc lv st b G I
  | 0, pc, lv, st, b, G, I, hw => hw
  | n + 1, pc, lv, st, b, G, I, hw => by
    by_cases e : isS ss pc
    · exact hw.1 e
    · exact h pc E d Q _ (wp_ok h n) lv st b G I (hw.2 e)
theorem Ex.run {M : MI} {T : Nat → OP} (h : TOK M T) (ss : List Nat) (n : Nat) {E : EV} {d : Nat} {Q : QT} {pc : Nat} {lv : LVs} {st : List Value} {b : Nat × Nat} {G : GD} {I : IM} (hw : T pc E d Q (wp T ss E d Q (Ex E d M Q) n) lv st b G I) : Ex E d M Q pc lv st b G I := h pc E d Q _ (wp_ok h n) lv st b G I hw
theorem s_bad {M : MI} {pc : Nat} : SOp M pc opBad := fun _ _ _ _ _ _ _ _ _ _ h => h.elim
theorem T_if {M : MI} {k pc : Nat} {a b : OP} (ha : SOp M pc a) (hb : SOp M pc b) : SOp M pc (if pc < k then a else b) := by
  split
  · exact ha
  · exact hb
theorem T_lf {M : MI} {k pc : Nat} {o : OP} (h : SOp M k o) : SOp M pc (if pc = k then o else opBad) := by
  split
  · rename_i e; rw [e]; exact h
  · exact s_bad
theorem mT {w : Cond} (h : w ∈ tables_1) : w ∈ lw_tbl := List.mem_append_right _ h
theorem mS {w : Cond} (h : w ∈ k2_sels lw_privs) : w ∈ lw_tbl := List.mem_append_left _ h
theorem mT1 {w : Cond} (h : w ∈ tables_1_1) : w ∈ lw_tbl := mT (List.mem_append_left _ h)
theorem mT2 {w : Cond} (h : w ∈ tables_1_2) : w ∈ lw_tbl := mT (List.mem_append_right _ (List.mem_append_left _ h))
theorem mT3 {w : Cond} (h : w ∈ tables_1_3) : w ∈ lw_tbl := mT (List.mem_append_right _ (List.mem_append_right _ (List.mem_append_left _ h)))
theorem mT4 {w : Cond} (h : w ∈ tables_1_4) : w ∈ lw_tbl := mT (List.mem_append_right _ (List.mem_append_right _ (List.mem_append_right _ (List.mem_append_left _ h))))
theorem mT5 {w : Cond} (h : w ∈ tables_1_5) : w ∈ lw_tbl := mT (List.mem_append_right _ (List.mem_append_right _ (List.mem_append_right _ (List.mem_append_right _ (List.mem_append_left _ h)))))
theorem mT6 {w : Cond} (h : w ∈ tables_1_6) : w ∈ lw_tbl := mT (List.mem_append_right _ (List.mem_append_right _ (List.mem_append_right _ (List.mem_append_right _ (List.mem_append_right _ (List.mem_append_left _ h))))))
theorem mT7 {w : Cond} (h : w ∈ tables_1_7) : w ∈ lw_tbl := mT (List.mem_append_right _ (List.mem_append_right _ (List.mem_append_right _ (List.mem_append_right _ (List.mem_append_right _ (List.mem_append_right _ (List.mem_append_left _ h)))))))
theorem mT8 {w : Cond} (h : w ∈ tables_1_8) : w ∈ lw_tbl := mT (List.mem_append_right _ (List.mem_append_right _ (List.mem_append_right _ (List.mem_append_right _ (List.mem_append_right _ (List.mem_append_right _ (List.mem_append_right _ h)))))))
theorem mP {q : MethodName × Nat} (h : q ∈ lw_privs) : Cond.selects q.1.cls q.1 q.1 ∈ lw_tbl := mS (List.mem_map.mpr ⟨q, h, rfl⟩)
theorem Ct.run {M : MI} {na : Nat} {T : Nat → OP} (hm : MOK M na) (hT : TOK M T) (ss : List Nat) (n : Nat) {E : EV} {d : Nat} {av : List Value} {bc : Nat × Nat} {G : GD} {I : IM} {Q : QT} {lv : LVs} (hw : Nat.ble (wds av) (mX M) = true) (hl : lve av (mX M) = lv) (h : T 0 E d Q (wp T ss E d Q (Ex E d M Q) n) lv [] bc G I) : Ct E d M av bc G I Q := Ct.of hm.2.2.2.2 (Nat.le_of_ble_eq_true hw) hl (Ex.run hT ss n h)
theorem Ct.go {M : MI} {na : Nat} (hm : MOK M na) {E : EV} {d : Nat} {av : List Value} {bc : Nat × Nat} {G : GD} {I : IM} {Q : QT} {lv : LVs} (hw : Nat.ble (wds av) (mX M) = true) (hl : lve av (mX M) = lv) (h : Ex E d M Q 0 lv [] bc G I) : Ct E d M av bc G I Q := Ct.of hm.2.2.2.2 (Nat.le_of_ble_eq_true hw) hl h
theorem lve_0 (n : Nat) : lve [] n = List.replicate n none := rfl
theorem lve_i (x : Int32) (r : List Value) (n : Nat) : lve (.int x :: r) n = some (.int x) :: lve r (n - 1) := rfl
theorem lve_r (x : Nat) (r : List Value) (n : Nat) : lve (.ref x :: r) n = some (.ref x) :: lve r (n - 1) := rfl
theorem lve_l (x : Int64) (r : List Value) (n : Nat) : lve (.long x :: r) n = some (.long x) :: none :: lve r (n - 2) := rfl
