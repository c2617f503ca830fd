/-! ===== instructions as transformers of predicates ===== -/
abbrev QT : Type := Option Value → GD → IM → Prop
abbrev KT : Type := Nat → LVs → List Value → Nat × Nat → GD → IM → Prop
abbrev OP : Type := EV → Nat → QT → KT → LVs → List Value → Nat × Nat → GD → IM → Prop
def SOp (M : MI) (pc : Nat) (o : OP) : Prop := ∀ (E : EV) (d : Nat) (Q : QT) (K : KT), (∀ pc lv st b G I, K pc lv st b G I → Ex E d M Q pc lv st b G I) → ∀ lv st b G I, o E d Q K lv st b G I → Ex E d M Q pc lv st b G I
def popI (st : List Value) (f : Int32 → List Value → Prop) : Prop := match st with
  | .int x :: r => f x r
  | _ => False
def popL (st : List Value) (f : Int64 → List Value → Prop) : Prop := match st with
  | .long x :: r => f x r
  | _ => False
def popR (st : List Value) (f : Nat → List Value → Prop) : Prop := match st with
  | .ref x :: r => f x r
  | _ => False
def pop1 (st : List Value) (f : Value → List Value → Prop) : Prop := match st with
  | v :: r => isW (some v) = false ∧ f v r
  | _ => False
def asI (v : Option Value) (f : Int32 → Prop) : Prop := match v with
  | some (.int x) => f x
  | _ => False
def asL (v : Option Value) (f : Int64 → Prop) : Prop := match v with
  | some (.long x) => f x
  | _ => False
def asR (v : Option Value) (f : Nat → Prop) : Prop := match v with
  | some (.ref x) => f x
  | _ => False
def asP (v : Option Nat) (f : Nat → Prop) : Prop := match v with
  | some x => f x
  | none => False
theorem popI_c (x : Int32) (r : List Value) (f : Int32 → List Value → Prop) : popI (.int x :: r) f = f x r := rfl
theorem popL_c (x : Int64) (r : List Value) (f : Int64 → List Value → Prop) : popL (.long x :: r) f = f x r := rfl
theorem popR_c (x : Nat) (r : List Value) (f : Nat → List Value → Prop) : popR (.ref x :: r) f = f x r := rfl
theorem pop1_i (x : Int32) (r : List Value) (f : Value → List Value → Prop) : pop1 (.int x :: r) f = f (.int x) r := by simp [pop1, isW]
theorem pop1_r (x : Nat) (r : List Value) (f : Value → List Value → Prop) : pop1 (.ref x :: r) f = f (.ref x) r := by simp [pop1, isW]
theorem asI_c (x : Int32) (f : Int32 → Prop) : asI (some (.int x)) f = f x := rfl
theorem asL_c (x : Int64) (f : Int64 → Prop) : asL (some (.long x)) f = f x := rfl
theorem asR_c (x : Nat) (f : Nat → Prop) : asR (some (.ref x)) f = f x := rfl
theorem asP_c (x : Nat) (f : Nat → Prop) : asP (some x) f = f x := rfl
theorem gi_0 (x : Option Value) (r : LVs) : gi (x :: r) 0 = x := rfl
theorem gi_s (x : Option Value) (r : LVs) (i : Nat) : gi (x :: r) (i + 1) = gi r i := rfl
theorem si_0 (x v : Option Value) (r : LVs) : si (x :: r) 0 v = v :: r := rfl
theorem si_s (x v : Option Value) (r : LVs) (i : Nat) : si (x :: r) (i + 1) v = x :: si r i v := rfl
theorem noL_0 (l : LVs) : (noL l 0 = true) = True := by simp [noL]
theorem noL_s (l : LVs) (i : Nat) : (noL l (i + 1) = true) = (isW (gi l i) = false) := by simp [noL]
theorem isW_n : (isW none = false) = True := by simp [isW]
theorem isW_i (x : Int32) : (isW (some (.int x)) = false) = True := by simp [isW]
theorem isW_r (x : Nat) : (isW (some (.ref x)) = false) = True := by simp [isW]
theorem popI_e {st : List Value} {f : Int32 → List Value → Prop} (h : popI st f) : ∃ x r, st = .int x :: r ∧ f x r := by
  unfold popI at h; split at h
  · exact ⟨_, _, rfl, h⟩
  · exact h.elim
theorem popL_e {st : List Value} {f : Int64 → List Value → Prop} (h : popL st f) : ∃ x r, st = .long x :: r ∧ f x r := by
  unfold popL at h; split at h
  · exact ⟨_, _, rfl, h⟩
  · exact h.elim
theorem popR_e {st : List Value} {f : Nat → List Value → Prop} (h : popR st f) : ∃ x r, st = .ref x :: r ∧ f x r := by
  unfold popR at h; split at h
  · exact ⟨_, _, rfl, h⟩
  · exact h.elim
theorem cat1_of {E : EV} {v : Value} (h : isW (some v) = false) : (tr E v).category = 1 := by
  cases v <;> simp [isW, tr, Value.category] at *
theorem pop1_e {st : List Value} {f : Value → List Value → Prop} (h : pop1 st f) : ∃ x r, st = x :: r ∧ isW (some x) = false ∧ f x r := by
  unfold pop1 at h; split at h
  · exact ⟨_, _, rfl, h⟩
  · exact h.elim
theorem asI_e {v : Option Value} {f : Int32 → Prop} (h : asI v f) : ∃ x, v = some (.int x) ∧ f x := by
  unfold asI at h; split at h
  · exact ⟨_, rfl, h⟩
  · exact h.elim
theorem asL_e {v : Option Value} {f : Int64 → Prop} (h : asL v f) : ∃ x, v = some (.long x) ∧ f x := by
  unfold asL at h; split at h
  · exact ⟨_, rfl, h⟩
  · exact h.elim
theorem asR_e {v : Option Value} {f : Nat → Prop} (h : asR v f) : ∃ x, v = some (.ref x) ∧ f x := by
  unfold asR at h; split at h
  · exact ⟨_, rfl, h⟩
  · exact h.elim
theorem asP_e {v : Option Nat} {f : Nat → Prop} (h : asP v f) : ∃ x, v = some x ∧ f x := by
  unfold asP at h; split at h
  · exact ⟨_, rfl, h⟩
  · exact h.elim
/-- a local read, a local written, and what follows -/
def ldI (lv : LVs) (i : Nat) (f : Int32 → Prop) : Prop := asI (gi lv i) f
def ldL (lv : LVs) (i : Nat) (f : Int64 → Prop) : Prop := asL (gi lv i) f
def ldR (lv : LVs) (i : Nat) (f : Nat → Prop) : Prop := asR (gi lv i) f
def stL (lv : LVs) (i : Nat) (v : Option Value) (f : LVs → Prop) : Prop := f (si lv i v)
theorem ldI_0 (x : Int32) (r : LVs) (f : Int32 → Prop) : ldI (some (.int x) :: r) 0 f = f x := rfl
theorem ldI_s (a : Option Value) (r : LVs) (i : Nat) (f : Int32 → Prop) : ldI (a :: r) (i + 1) f = ldI r i f := rfl
theorem ldL_0 (x : Int64) (r : LVs) (f : Int64 → Prop) : ldL (some (.long x) :: r) 0 f = f x := rfl
theorem ldL_s (a : Option Value) (r : LVs) (i : Nat) (f : Int64 → Prop) : ldL (a :: r) (i + 1) f = ldL r i f := rfl
theorem ldR_0 (x : Nat) (r : LVs) (f : Nat → Prop) : ldR (some (.ref x) :: r) 0 f = f x := rfl
theorem ldR_s (a : Option Value) (r : LVs) (i : Nat) (f : Nat → Prop) : ldR (a :: r) (i + 1) f = ldR r i f := rfl
theorem stL_0 (a v : Option Value) (r : LVs) (f : LVs → Prop) : stL (a :: r) 0 v f = f (v :: r) := rfl
theorem stL_s (a v : Option Value) (r : LVs) (i : Nat) (f : LVs → Prop) : stL (a :: r) (i + 1) v f = stL r i v (fun q => f (a :: q)) := rfl
def opBad : OP := fun _ _ _ _ _ _ _ _ _ => False
def opPush (v : Value) (nx : Nat) : OP := fun _ _ _ K lv st b G I => K nx lv (v :: st) b G I
def opILoad (i nx : Nat) : OP := fun _ _ _ K lv st b G I => ldI lv i fun x => K nx lv (.int x :: st) b G I
def opLLoad (i nx : Nat) : OP := fun _ _ _ K lv st b G I => ldL lv i fun x => K nx lv (.long x :: st) b G I
def opALoad (i nx : Nat) : OP := fun _ _ _ K lv st b G I => ldR lv i fun x => K nx lv (.ref x :: st) b G I
def opIStore (i nx : Nat) : OP := fun _ _ _ K lv st b G I => popI st fun x r => noL lv i = true ∧ stL lv i (some (.int x)) fun lv => K nx lv r b G I
def opAStore (i nx : Nat) : OP := fun _ _ _ K lv st b G I => popR st fun x r => noL lv i = true ∧ stL lv i (some (.ref x)) fun lv => K nx lv r b G I
def opLStore (i nx : Nat) : OP := fun _ _ _ K lv st b G I => popL st fun x r => noL lv i = true ∧ stL lv i (some (.long x)) fun lv => stL lv (i + 1) none fun lv => K nx lv r b G I
def opIInc (i : Nat) (n : Int32) (nx : Nat) : OP := fun _ _ _ K lv st b G I => ldI lv i fun x => noL lv i = true ∧ stL lv i (some (.int (x + n))) fun lv => K nx lv st b G I
def opI1 (f : Int32 → Int32) (nx : Nat) : OP := fun _ _ _ K lv st b G I => popI st fun x r => K nx lv (.int (f x) :: r) b G I
def opII (f : Int32 → Int32 → Int32) (nx : Nat) : OP := fun _ _ _ K lv st b G I => popI st fun y r => popI r fun x r => K nx lv (.int (f x y) :: r) b G I
def opID (f : Int32 → Int32 → Int32) (nx : Nat) : OP := fun _ _ _ K lv st b G I => popI st fun y r => popI r fun x r => ¬ y = 0 ∧ K nx lv (.int (f x y) :: r) b G I
def opLL (f : Int64 → Int64 → Int64) (nx : Nat) : OP := fun _ _ _ K lv st b G I => popL st fun y r => popL r fun x r => K nx lv (.long (f x y) :: r) b G I
def opLD (f : Int64 → Int64 → Int64) (nx : Nat) : OP := fun _ _ _ K lv st b G I => popL st fun y r => popL r fun x r => ¬ y = 0 ∧ K nx lv (.long (f x y) :: r) b G I
def opLI (f : Int64 → Int32 → Int64) (nx : Nat) : OP := fun _ _ _ K lv st b G I => popI st fun y r => popL r fun x r => K nx lv (.long (f x y) :: r) b G I
def opI2L (nx : Nat) : OP := fun _ _ _ K lv st b G I => popI st fun x r => K nx lv (.long x.toInt64 :: r) b G I
def opL2I (nx : Nat) : OP := fun _ _ _ K lv st b G I => popL st fun x r => K nx lv (.int x.toInt32 :: r) b G I
def opLcmp (nx : Nat) : OP := fun _ _ _ K lv st b G I => popL st fun y r => popL r fun x r => K nx lv (.int (lg_cmp x y) :: r) b G I
def opDup (nx : Nat) : OP := fun _ _ _ K lv st b G I => pop1 st fun x r => K nx lv (x :: x :: r) b G I
def opDupX1 (nx : Nat) : OP := fun _ _ _ K lv st b G I => pop1 st fun x r => pop1 r fun y r => K nx lv (x :: y :: x :: r) b G I
def opDup2 (nx : Nat) : OP := fun _ _ _ K lv st b G I => pop1 st fun x r => pop1 r fun y r => K nx lv (x :: y :: x :: y :: r) b G I
def opPop (nx : Nat) : OP := fun _ _ _ K lv st b G I => pop1 st fun _ r => K nx lv r b G I
def opIf1 (c : Int32 → Prop) (tg nx : Nat) : OP := fun _ _ _ K lv st b G I => popI st fun x r => (c x → K tg lv r b G I) ∧ (¬ c x → K nx lv r b G I)
def opIf2 (c : Int32 → Int32 → Prop) (tg nx : Nat) : OP := fun _ _ _ K lv st b G I => popI st fun y r => popI r fun x r => (c x y → K tg lv r b G I) ∧ (¬ c x y → K nx lv r b G I)
def opGoto (tg : Nat) : OP := fun _ _ _ K lv st b G I => K tg lv st b G I
def opIRet : OP := fun _ _ Q _ _ st _ G I => popI st fun x r => r = [] ∧ Q (some (.int x)) G I
def opZRet : OP := fun _ _ Q _ _ st _ G I => popI st fun x r => r = [] ∧ (x = 0 ∨ x = 1) ∧ Q (some (.int x)) G I
def opLRet : OP := fun _ _ Q _ _ st _ G I => popL st fun x r => r = [] ∧ Q (some (.long x)) G I
def opVRet : OP := fun _ _ Q _ _ st _ G I => st = [] ∧ Q none G I

theorem s_iconst {M : MI} {pc nx : Nat} {n : Int} {v : Int32} (hd : decode (mB M) pc = .ok (.iconst n, 1)) (hn : pc + 1 = nx) (hv : Int32.ofInt n = v) : SOp M pc (opPush (.int v) nx) := by
  subst hn
  intro E d Q K hK lv st b G I h
  exact Ex.go (fun C hl hr w => lv_iconst C.1 C.2.1 hd hv w) (hK _ _ _ _ _ _ h)
theorem s_bipush {M : MI} {pc nx : Nat} {n : Int} {v : Int32} (hd : decode (mB M) pc = .ok (.bipush n, 2)) (hn : pc + 2 = nx) (hv : (Int8.ofInt n).toInt32 = v) : SOp M pc (opPush (.int v) nx) := by
  subst hn
  intro E d Q K hK lv st b G I h
  exact Ex.go (fun C hl hr w => lv_bipush C.1 C.2.1 hd hv w) (hK _ _ _ _ _ _ h)
theorem s_sipush {M : MI} {pc nx : Nat} {n : Int} {v : Int32} (hd : decode (mB M) pc = .ok (.sipush n, 3)) (hn : pc + 3 = nx) (hv : (Int16.ofInt n).toInt32 = v) : SOp M pc (opPush (.int v) nx) := by
  subst hn
  intro E d Q K hK lv st b G I h
  exact Ex.go (fun C hl hr w => lv_sipush C.1 C.2.1 hd hv w) (hK _ _ _ _ _ _ h)
theorem s_lconst {M : MI} {pc nx : Nat} {n : Fin 2} {v : Int64} (hd : decode (mB M) pc = .ok (.lconst n, 1)) (hn : pc + 1 = nx) (hv : Int64.ofNat n = v) : SOp M pc (opPush (.long v) nx) := by
  subst hn
  intro E d Q K hK lv st b G I h
  exact Ex.go (fun C hl hr w => lv_lconst C.1 C.2.1 hd hv w) (hK _ _ _ _ _ _ h)
theorem s_ldc {M : MI} {pc nx : Nat} {idx : Nat} {v : Int32} (hd : decode (mB M) pc = .ok (.ldc idx, 2)) (hn : pc + 2 = nx) (hw : Cond.constant (mY M).cls idx v ∈ lw_tbl) : SOp M pc (opPush (.int v) nx) := by
  subst hn
  intro E d Q K hK lv st b G I h
  exact Ex.go (fun C hl hr w => lv_ldc C.1 C.2.1 C.2.2.2.2.1 (C.2.2.2.2.2.1 _ (inG hw rfl)) hd w) (hK _ _ _ _ _ _ h)
theorem s_ldcw {M : MI} {pc nx : Nat} {idx : Nat} {v : Int32} (hd : decode (mB M) pc = .ok (.ldc_w idx, 3)) (hn : pc + 3 = nx) (hw : Cond.constant (mY M).cls idx v ∈ lw_tbl) : SOp M pc (opPush (.int v) nx) := by
  subst hn
  intro E d Q K hK lv st b G I h
  exact Ex.go (fun C hl hr w => lv_ldcw C.1 C.2.1 C.2.2.2.2.1 (C.2.2.2.2.2.1 _ (inG hw rfl)) hd w) (hK _ _ _ _ _ _ h)
theorem s_ldc2 {M : MI} {pc nx : Nat} {idx : Nat} {v : Int64} (hd : decode (mB M) pc = .ok (.ldc2_w idx, 3)) (hn : pc + 3 = nx) (hw : Cond.constantLong (mY M).cls idx v ∈ lw_tbl) : SOp M pc (opPush (.long v) nx) := by
  subst hn
  intro E d Q K hK lv st b G I h
  exact Ex.go (fun C hl hr w => lv_ldc2 C.1 C.2.1 C.2.2.2.2.1 (C.2.2.2.2.2.1 _ (inG hw rfl)) hd w) (hK _ _ _ _ _ _ h)
theorem s_ldcS {M : MI} {pc nx : Nat} {idx j : Nat} (hd : decode (mB M) pc = .ok (.ldc idx, 2)) (hn : pc + 2 = nx) (hj : j < 7) (ho : (mY M).cls = sown j) (hi : idx = sidx j) : SOp M pc (opPush (.ref (100000 + sid j)) nx) := by
  subst hn
  intro E d Q K hK lv st b G I h
  exact Ex.go (fun C hl hr w => by
    have e : tr E (.ref (100000 + sid j)) = .ref (ePr E (sid j)) := by simp [tr, ad]; omega
    simp only [List.map_cons, e] at w
    exact va_ldcS C.1 C.2.1 C.2.2.2.2.1 (by rw [ho, hi]; exact hr.pg.2.2.2.2.2.1 j hj) hd w) (hK _ _ _ _ _ _ h)
theorem s_iload {M : MI} {pc nx : Nat} {i : Nat} (hd : decode (mB M) pc = .ok (.iload i, 2)) (hn : pc + 2 = nx) : SOp M pc (opILoad i nx) := by
  subst hn
  intro E d Q K hK lv st b G I h
  obtain ⟨x, hx, h⟩ := asI_e h
  exact Ex.go (fun C hl hr w => lv_iload C.1 C.2.1 hd (hl.2.2 i _ hx) w) (hK _ _ _ _ _ _ h)
theorem s_iload_n {M : MI} {pc nx : Nat} {k : Fin 4} {i : Nat} (hd : decode (mB M) pc = .ok (.iload_n k, 1)) (hn : pc + 1 = nx) (hi : (k : Nat) = i) : SOp M pc (opILoad i nx) := by
  subst hn
  intro E d Q K hK lv st b G I h
  obtain ⟨x, hx, h⟩ := asI_e h
  exact Ex.go (fun C hl hr w => lv_iload_n C.1 C.2.1 hd hi (hl.2.2 i _ hx) w) (hK _ _ _ _ _ _ h)
theorem s_lload {M : MI} {pc nx : Nat} {i : Nat} (hd : decode (mB M) pc = .ok (.lload i, 2)) (hn : pc + 2 = nx) : SOp M pc (opLLoad i nx) := by
  subst hn
  intro E d Q K hK lv st b G I h
  obtain ⟨x, hx, h⟩ := asL_e h
  exact Ex.go (fun C hl hr w => lv_lload C.1 C.2.1 hd (hl.2.2 i _ hx) w) (hK _ _ _ _ _ _ h)
theorem s_lload_n {M : MI} {pc nx : Nat} {k : Fin 4} {i : Nat} (hd : decode (mB M) pc = .ok (.lload_n k, 1)) (hn : pc + 1 = nx) (hi : (k : Nat) = i) : SOp M pc (opLLoad i nx) := by
  subst hn
  intro E d Q K hK lv st b G I h
  obtain ⟨x, hx, h⟩ := asL_e h
  exact Ex.go (fun C hl hr w => lv_lload_n C.1 C.2.1 hd hi (hl.2.2 i _ hx) w) (hK _ _ _ _ _ _ h)
theorem s_aload {M : MI} {pc nx : Nat} {i : Nat} (hd : decode (mB M) pc = .ok (.aload i, 2)) (hn : pc + 2 = nx) : SOp M pc (opALoad i nx) := by
  subst hn
  intro E d Q K hK lv st b G I h
  obtain ⟨x, hx, h⟩ := asR_e h
  exact Ex.go (fun C hl hr w => lv_aload C.1 C.2.1 hd (hl.2.2 i _ hx) w) (hK _ _ _ _ _ _ h)
theorem s_aload_n {M : MI} {pc nx : Nat} {k : Fin 4} {i : Nat} (hd : decode (mB M) pc = .ok (.aload_n k, 1)) (hn : pc + 1 = nx) (hi : (k : Nat) = i) : SOp M pc (opALoad i nx) := by
  subst hn
  intro E d Q K hK lv st b G I h
  obtain ⟨x, hx, h⟩ := asR_e h
  exact Ex.go (fun C hl hr w => lv_aload_n C.1 C.2.1 hd hi (hl.2.2 i _ hx) w) (hK _ _ _ _ _ _ h)
theorem noL_of {lv : LVs} {i j : Nat} {v : Value} (h : noL lv i = true) (hj : j + 1 = i) (hv : gi lv j = some v) : v.category ≠ 2 := by
  subst hj
  rw [noL_s, hv] at h
  cases v <;> simp [isW, Value.category] at *
theorem gi_si : ∀ (l : LVs) (i j : Nat) (v : Option Value) (x : Value), gi (si l i v) j = some x → (j = i ∧ v = some x) ∨ (j ≠ i ∧ gi l j = some x)
  | [], i, j, v, x, h => by rw [show si [] i v = [] by cases i <;> rfl, gi_nil] at h; cases h
  | a :: r, 0, 0, v, x, h => Or.inl ⟨rfl, h⟩
  | a :: r, 0, j + 1, v, x, h => Or.inr ⟨by omega, h⟩
  | a :: r, i + 1, 0, v, x, h => Or.inr ⟨by omega, h⟩
  | a :: r, i + 1, j + 1, v, x, h => by
    rcases gi_si r i j v x h with ⟨h1, h2⟩ | ⟨h1, h2⟩
    · exact Or.inl ⟨by omega, h2⟩
    · exact Or.inr ⟨by omega, h2⟩
theorem tr_cat (E : EV) (v : Value) : (tr E v).category = v.category := by cases v <;> rfl
/-- all that a list of locals says, as the kit's rows want it -/
def lvl (E : EV) (lv : LVs) : List (Nat × Value) := (List.range lv.length).filterMap fun i => (gi lv i).map fun v => (i, tr E v)
theorem gi_lt : ∀ (l : LVs) (i : Nat) (v : Value), gi l i = some v → i < l.length
  | [], i, v, h => by rw [gi_nil] at h; cases h
  | a :: r, 0, v, h => by simp
  | a :: r, i + 1, v, h => by have := gi_lt r i v h; simp; omega
theorem lvl_mem {E : EV} {lv : LVs} {i : Nat} {v : Value} (h : gi lv i = some v) : (i, tr E v) ∈ lvl E lv := by
  unfold lvl
  rw [List.mem_filterMap]
  exact ⟨i, List.mem_range.mpr (gi_lt lv i v h), by rw [h]; rfl⟩
theorem lvl_of {E : EV} {lv : LVs} {q : Nat × Value} (h : q ∈ lvl E lv) : ∃ v, gi lv q.1 = some v ∧ q.2 = tr E v := by
  unfold lvl at h
  rw [List.mem_filterMap] at h
  obtain ⟨i, -, h⟩ := h
  cases hv : gi lv i with
  | none => rw [hv] at h; cases h
  | some v => rw [hv] at h; cases h; exact ⟨v, hv, rfl⟩
theorem LV.has {E : EV} {ls : Array Slot} {n : Nat} {lv : LVs} (h : LV E ls n lv) : lv_has ls n (lvl E lv) := ⟨h.1, h.2.1, fun q hq => by
  obtain ⟨v, h1, h2⟩ := lvl_of hq
  rw [h2]
  exact h.2.2 _ _ h1⟩
theorem LV.st1 {E : EV} {ls : Array Slot} {n i : Nat} {lv : LVs} {x : Value} (h : lv_has ls n ((i, tr E x) :: (lvl E lv).filter (fun q => !(q.1 == i) && !(q.1 + 1 == i && q.2.category == 2)))) (hL : noL lv i = true) : LV E ls n (si lv i (some x)) := by
  refine ⟨h.1, h.2.1, fun j v hv => ?_⟩
  rcases gi_si _ _ _ _ _ hv with ⟨rfl, h2⟩ | ⟨h1, h2⟩
  · cases h2
    exact h.2.2 _ List.mem_cons_self
  · refine h.2.2 (j, tr E v) (List.mem_cons_of_mem _ (List.mem_filter.mpr ⟨lvl_mem h2, ?_⟩))
    simp only [Bool.and_eq_true, Bool.not_eq_true', beq_eq_false_iff_ne, ne_eq, Bool.and_eq_false_iff, tr_cat]
    refine ⟨h1, ?_⟩
    by_cases e : j + 1 = i
    · exact Or.inr (noL_of hL e h2)
    · exact Or.inl e
theorem LV.st2 {E : EV} {ls : Array Slot} {n i : Nat} {lv : LVs} {x : Value} (h : lv_has ls n ((i, tr E x) :: (lvl E lv).filter (fun q => !(q.1 == i) && (!(q.1 == i + 1) && !(q.1 + 1 == i && q.2.category == 2))))) (hL : noL lv i = true) : LV E ls n (si (si lv i (some x)) (i + 1) none) := by
  refine ⟨h.1, h.2.1, fun j v hv => ?_⟩
  rcases gi_si _ _ _ _ _ hv with ⟨rfl, h2⟩ | ⟨h1, h2⟩
  · cases h2
  · rcases gi_si _ _ _ _ _ h2 with ⟨rfl, h3⟩ | ⟨h4, h3⟩
    · cases h3
      exact h.2.2 _ List.mem_cons_self
    · refine h.2.2 (j, tr E v) (List.mem_cons_of_mem _ (List.mem_filter.mpr ⟨lvl_mem h3, ?_⟩))
      simp only [Bool.and_eq_true, Bool.not_eq_true', beq_eq_false_iff_ne, ne_eq, Bool.and_eq_false_iff, tr_cat]
      refine ⟨h4, h1, ?_⟩
      by_cases e : j + 1 = i
      · exact Or.inr (noL_of hL e h3)
      · exact Or.inl e
/-- a step that changes the locals alone -/
theorem Ex.goL {E : EV} {d : Nat} {M : MI} {Q : QT} {pc nx : Nat} {lv lv' : LVs} {st st' : List Value} {b : Nat × Nat} {G : GD} {I : IM}
    (f : ∀ {p : Program} {e : Env} {R : Room} {s : State} {m : MethodId} {args : Array Value} {below : List Frame} {meth : Method} {c : Code} {H : Heap} {locs : List Loc} {cells slots : Nat} {Qw : State → Prop} {ls : Array Slot},
      CX M p s m args meth c → LV E ls (mX M) lv → (∀ ls', LV E ls' (mX M) lv' → W p (eL E) e R s m args below meth c H locs cells slots Qw (F0 m nx ls' (st'.map (tr E)))) → W p (eL E) e R s m args below meth c H locs cells slots Qw (F0 m pc ls (st.map (tr E))))
    (h : Ex E d M Q nx lv' st' b G I) : Ex E d M Q pc lv st b G I :=
  fun p e R s m args below meth c H locs cells slots mc ms ls C hr h1 h2 h3 h4 h5 h6 h7 h8 hl => f C hl (fun ls' hl' => h p e R s m args below meth c H locs cells slots mc ms ls' C hr h1 h2 h3 h4 h5 h6 h7 h8 hl')
theorem s_istore {M : MI} {pc nx : Nat} {i : Nat} (hd : decode (mB M) pc = .ok (.istore i, 2)) (hn : pc + 2 = nx) (hx : i < mX M) : SOp M pc (opIStore i nx) := by
  subst hn
  intro E d Q K hK lv st b G I h
  obtain ⟨x, r, rfl, h0, h⟩ := popI_e h
  exact Ex.goL (fun C hl w => lv_istore C.1 C.2.1 hd hl.has hx rfl (fun ls' hl' => w ls' (LV.st1 hl' h0))) (hK _ _ _ _ _ _ h)
theorem s_istore_n {M : MI} {pc nx : Nat} {k : Fin 4} {i : Nat} (hd : decode (mB M) pc = .ok (.istore_n k, 1)) (hn : pc + 1 = nx) (hi : (k : Nat) = i) (hx : i < mX M) : SOp M pc (opIStore i nx) := by
  subst hn
  intro E d Q K hK lv st b G I h
  obtain ⟨x, r, rfl, h0, h⟩ := popI_e h
  exact Ex.goL (fun C hl w => lv_istore_n C.1 C.2.1 hd hi hl.has hx rfl (fun ls' hl' => w ls' (LV.st1 hl' h0))) (hK _ _ _ _ _ _ h)
theorem s_astore {M : MI} {pc nx : Nat} {i : Nat} (hd : decode (mB M) pc = .ok (.astore i, 2)) (hn : pc + 2 = nx) (hx : i < mX M) : SOp M pc (opAStore i nx) := by
  subst hn
  intro E d Q K hK lv st b G I h
  obtain ⟨x, r, rfl, h0, h⟩ := popR_e h
  exact Ex.goL (fun C hl w => lv_astore C.1 C.2.1 hd hl.has hx rfl (fun ls' hl' => w ls' (LV.st1 hl' h0))) (hK _ _ _ _ _ _ h)
theorem s_astore_n {M : MI} {pc nx : Nat} {k : Fin 4} {i : Nat} (hd : decode (mB M) pc = .ok (.astore_n k, 1)) (hn : pc + 1 = nx) (hi : (k : Nat) = i) (hx : i < mX M) : SOp M pc (opAStore i nx) := by
  subst hn
  intro E d Q K hK lv st b G I h
  obtain ⟨x, r, rfl, h0, h⟩ := popR_e h
  exact Ex.goL (fun C hl w => lv_astore_n C.1 C.2.1 hd hi hl.has hx rfl (fun ls' hl' => w ls' (LV.st1 hl' h0))) (hK _ _ _ _ _ _ h)
theorem s_lstore {M : MI} {pc nx : Nat} {i : Nat} (hd : decode (mB M) pc = .ok (.lstore i, 2)) (hn : pc + 2 = nx) (hx : i + 1 < mX M) : SOp M pc (opLStore i nx) := by
  subst hn
  intro E d Q K hK lv st b G I h
  obtain ⟨x, r, rfl, h0, h⟩ := popL_e h
  exact Ex.goL (fun C hl w => lv_lstore C.1 C.2.1 hd hl.has hx rfl (fun ls' hl' => w ls' (LV.st2 hl' h0))) (hK _ _ _ _ _ _ h)
theorem s_lstore_n {M : MI} {pc nx : Nat} {k : Fin 4} {i : Nat} (hd : decode (mB M) pc = .ok (.lstore_n k, 1)) (hn : pc + 1 = nx) (hi : (k : Nat) = i) (hx : i + 1 < mX M) : SOp M pc (opLStore i nx) := by
  subst hn
  intro E d Q K hK lv st b G I h
  obtain ⟨x, r, rfl, h0, h⟩ := popL_e h
  exact Ex.goL (fun C hl w => lv_lstore_n C.1 C.2.1 hd hi hl.has hx rfl (fun ls' hl' => w ls' (LV.st2 hl' h0))) (hK _ _ _ _ _ _ h)
theorem s_iinc {M : MI} {pc nx i : Nat} {n : Int} {v : Int32} (hd : decode (mB M) pc = .ok (.iinc i n, 3)) (hn : pc + 3 = nx) (hv : Int32.ofInt n = v) (hx : i < mX M) : SOp M pc (opIInc i v nx) := by
  subst hn
  subst hv
  intro E d Q K hK lv st b G I h
  obtain ⟨x, hg, h0, h⟩ := asI_e h
  obtain ⟨k, hk⟩ := List.mem_iff_getElem?.mp (lvl_mem (E := E) hg)
  exact Ex.goL (fun C hl w => lv_iinc (k := k) (x := x) C.1 C.2.1 hd hl.has hk rfl hx rfl (fun ls' hl' => w ls' (LV.st1 hl' h0))) (hK _ _ _ _ _ _ h)
theorem s_iadd {M : MI} {pc nx : Nat}  (hd : decode (mB M) pc = .ok (.iadd, 1)) (hn : pc + 1 = nx) : SOp M pc (opII (fun x y => x + y) nx) := by
  subst hn
  intro E d Q K hK lv st b G I h
  obtain ⟨y, r, rfl, h1⟩ := popI_e h
  obtain ⟨x, r, rfl, h⟩ := popI_e h1
  exact Ex.go (fun C hl hr w => lv_iadd C.1 C.2.1 hd w) (hK _ _ _ _ _ _ h)
theorem s_isub {M : MI} {pc nx : Nat}  (hd : decode (mB M) pc = .ok (.isub, 1)) (hn : pc + 1 = nx) : SOp M pc (opII (fun x y => x - y) nx) := by
  subst hn
  intro E d Q K hK lv st b G I h
  obtain ⟨y, r, rfl, h1⟩ := popI_e h
  obtain ⟨x, r, rfl, h⟩ := popI_e h1
  exact Ex.go (fun C hl hr w => lv_isub C.1 C.2.1 hd w) (hK _ _ _ _ _ _ h)
theorem s_imul {M : MI} {pc nx : Nat}  (hd : decode (mB M) pc = .ok (.imul, 1)) (hn : pc + 1 = nx) : SOp M pc (opII (fun x y => x * y) nx) := by
  subst hn
  intro E d Q K hK lv st b G I h
  obtain ⟨y, r, rfl, h1⟩ := popI_e h
  obtain ⟨x, r, rfl, h⟩ := popI_e h1
  exact Ex.go (fun C hl hr w => lv_imul C.1 C.2.1 hd w) (hK _ _ _ _ _ _ h)
theorem s_iand {M : MI} {pc nx : Nat}  (hd : decode (mB M) pc = .ok (.iand, 1)) (hn : pc + 1 = nx) : SOp M pc (opII (fun x y => x &&& y) nx) := by
  subst hn
  intro E d Q K hK lv st b G I h
  obtain ⟨y, r, rfl, h1⟩ := popI_e h
  obtain ⟨x, r, rfl, h⟩ := popI_e h1
  exact Ex.go (fun C hl hr w => lv_iand C.1 C.2.1 hd w) (hK _ _ _ _ _ _ h)
theorem s_ior {M : MI} {pc nx : Nat}  (hd : decode (mB M) pc = .ok (.ior, 1)) (hn : pc + 1 = nx) : SOp M pc (opII (fun x y => x ||| y) nx) := by
  subst hn
  intro E d Q K hK lv st b G I h
  obtain ⟨y, r, rfl, h1⟩ := popI_e h
  obtain ⟨x, r, rfl, h⟩ := popI_e h1
  exact Ex.go (fun C hl hr w => lv_ior C.1 C.2.1 hd w) (hK _ _ _ _ _ _ h)
theorem s_ixor {M : MI} {pc nx : Nat}  (hd : decode (mB M) pc = .ok (.ixor, 1)) (hn : pc + 1 = nx) : SOp M pc (opII (fun x y => x ^^^ y) nx) := by
  subst hn
  intro E d Q K hK lv st b G I h
  obtain ⟨y, r, rfl, h1⟩ := popI_e h
  obtain ⟨x, r, rfl, h⟩ := popI_e h1
  exact Ex.go (fun C hl hr w => lv_ixor C.1 C.2.1 hd w) (hK _ _ _ _ _ _ h)
theorem s_ishl {M : MI} {pc nx : Nat}  (hd : decode (mB M) pc = .ok (.ishl, 1)) (hn : pc + 1 = nx) : SOp M pc (opII (fun x y => x <<< (y &&& 31)) nx) := by
  subst hn
  intro E d Q K hK lv st b G I h
  obtain ⟨y, r, rfl, h1⟩ := popI_e h
  obtain ⟨x, r, rfl, h⟩ := popI_e h1
  exact Ex.go (fun C hl hr w => lv_ishl C.1 C.2.1 hd w) (hK _ _ _ _ _ _ h)
theorem s_ishr {M : MI} {pc nx : Nat}  (hd : decode (mB M) pc = .ok (.ishr, 1)) (hn : pc + 1 = nx) : SOp M pc (opII (fun x y => x >>> (y &&& 31)) nx) := by
  subst hn
  intro E d Q K hK lv st b G I h
  obtain ⟨y, r, rfl, h1⟩ := popI_e h
  obtain ⟨x, r, rfl, h⟩ := popI_e h1
  exact Ex.go (fun C hl hr w => lv_ishr C.1 C.2.1 hd w) (hK _ _ _ _ _ _ h)
theorem s_iushr {M : MI} {pc nx : Nat}  (hd : decode (mB M) pc = .ok (.iushr, 1)) (hn : pc + 1 = nx) : SOp M pc (opII (fun x y => (x.toUInt32 >>> (y.toUInt32 &&& Int32.toUInt32 31)).toInt32) nx) := by
  subst hn
  intro E d Q K hK lv st b G I h
  obtain ⟨y, r, rfl, h1⟩ := popI_e h
  obtain ⟨x, r, rfl, h⟩ := popI_e h1
  exact Ex.go (fun C hl hr w => lv_iushr C.1 C.2.1 hd rfl w) (hK _ _ _ _ _ _ h)
theorem s_idiv {M : MI} {pc nx : Nat}  (hd : decode (mB M) pc = .ok (.idiv, 1)) (hn : pc + 1 = nx) : SOp M pc (opID (fun x y => x / y) nx) := by
  subst hn
  intro E d Q K hK lv st b G I h
  obtain ⟨y, r, rfl, h1⟩ := popI_e h
  obtain ⟨x, r, rfl, h0, h⟩ := popI_e h1
  exact Ex.go (fun C hl hr w => lv_idiv C.1 C.2.1 hd h0 w) (hK _ _ _ _ _ _ h)
theorem s_irem {M : MI} {pc nx : Nat}  (hd : decode (mB M) pc = .ok (.irem, 1)) (hn : pc + 1 = nx) : SOp M pc (opID (fun x y => x - x / y * y) nx) := by
  subst hn
  intro E d Q K hK lv st b G I h
  obtain ⟨y, r, rfl, h1⟩ := popI_e h
  obtain ⟨x, r, rfl, h0, h⟩ := popI_e h1
  exact Ex.go (fun C hl hr w => lv_irem C.1 C.2.1 hd h0 w) (hK _ _ _ _ _ _ h)
theorem s_ladd {M : MI} {pc nx : Nat}  (hd : decode (mB M) pc = .ok (.ladd, 1)) (hn : pc + 1 = nx) : SOp M pc (opLL (fun x y => x + y) nx) := by
  subst hn
  intro E d Q K hK lv st b G I h
  obtain ⟨y, r, rfl, h1⟩ := popL_e h
  obtain ⟨x, r, rfl, h⟩ := popL_e h1
  exact Ex.go (fun C hl hr w => lv_ladd C.1 C.2.1 hd w) (hK _ _ _ _ _ _ h)
theorem s_lsub {M : MI} {pc nx : Nat}  (hd : decode (mB M) pc = .ok (.lsub, 1)) (hn : pc + 1 = nx) : SOp M pc (opLL (fun x y => x - y) nx) := by
  subst hn
  intro E d Q K hK lv st b G I h
  obtain ⟨y, r, rfl, h1⟩ := popL_e h
  obtain ⟨x, r, rfl, h⟩ := popL_e h1
  exact Ex.go (fun C hl hr w => lv_lsub C.1 C.2.1 hd w) (hK _ _ _ _ _ _ h)
theorem s_lmul {M : MI} {pc nx : Nat}  (hd : decode (mB M) pc = .ok (.lmul, 1)) (hn : pc + 1 = nx) : SOp M pc (opLL (fun x y => x * y) nx) := by
  subst hn
  intro E d Q K hK lv st b G I h
  obtain ⟨y, r, rfl, h1⟩ := popL_e h
  obtain ⟨x, r, rfl, h⟩ := popL_e h1
  exact Ex.go (fun C hl hr w => lv_lmul C.1 C.2.1 hd w) (hK _ _ _ _ _ _ h)
theorem s_land {M : MI} {pc nx : Nat}  (hd : decode (mB M) pc = .ok (.land, 1)) (hn : pc + 1 = nx) : SOp M pc (opLL (fun x y => x &&& y) nx) := by
  subst hn
  intro E d Q K hK lv st b G I h
  obtain ⟨y, r, rfl, h1⟩ := popL_e h
  obtain ⟨x, r, rfl, h⟩ := popL_e h1
  exact Ex.go (fun C hl hr w => lv_land C.1 C.2.1 hd w) (hK _ _ _ _ _ _ h)
theorem s_lor {M : MI} {pc nx : Nat}  (hd : decode (mB M) pc = .ok (.lor, 1)) (hn : pc + 1 = nx) : SOp M pc (opLL (fun x y => x ||| y) nx) := by
  subst hn
  intro E d Q K hK lv st b G I h
  obtain ⟨y, r, rfl, h1⟩ := popL_e h
  obtain ⟨x, r, rfl, h⟩ := popL_e h1
  exact Ex.go (fun C hl hr w => lv_lor C.1 C.2.1 hd w) (hK _ _ _ _ _ _ h)
theorem s_ldiv {M : MI} {pc nx : Nat}  (hd : decode (mB M) pc = .ok (.ldiv, 1)) (hn : pc + 1 = nx) : SOp M pc (opLD (fun x y => x / y) nx) := by
  subst hn
  intro E d Q K hK lv st b G I h
  obtain ⟨y, r, rfl, h1⟩ := popL_e h
  obtain ⟨x, r, rfl, h0, h⟩ := popL_e h1
  exact Ex.go (fun C hl hr w => lv_ldiv C.1 C.2.1 hd h0 w) (hK _ _ _ _ _ _ h)
theorem s_lrem {M : MI} {pc nx : Nat}  (hd : decode (mB M) pc = .ok (.lrem, 1)) (hn : pc + 1 = nx) : SOp M pc (opLD (fun x y => x - x / y * y) nx) := by
  subst hn
  intro E d Q K hK lv st b G I h
  obtain ⟨y, r, rfl, h1⟩ := popL_e h
  obtain ⟨x, r, rfl, h0, h⟩ := popL_e h1
  exact Ex.go (fun C hl hr w => lv_lrem C.1 C.2.1 hd h0 w) (hK _ _ _ _ _ _ h)
theorem s_lushr {M : MI} {pc nx : Nat}  (hd : decode (mB M) pc = .ok (.lushr, 1)) (hn : pc + 1 = nx) : SOp M pc (opLI (fun x y => (x.toUInt64 >>> (y.toInt64.toUInt64 &&& Int64.toUInt64 63)).toInt64) nx) := by
  subst hn
  intro E d Q K hK lv st b G I h
  obtain ⟨y, r, rfl, h1⟩ := popI_e h
  obtain ⟨x, r, rfl, h⟩ := popL_e h1
  exact Ex.go (fun C hl hr w => lv_lushr C.1 C.2.1 hd rfl w) (hK _ _ _ _ _ _ h)
theorem s_lshl {M : MI} {pc nx : Nat}  (hd : decode (mB M) pc = .ok (.lshl, 1)) (hn : pc + 1 = nx) : SOp M pc (opLI (fun x y => x <<< (y.toInt64 &&& 63)) nx) := by
  subst hn
  intro E d Q K hK lv st b G I h
  obtain ⟨y, r, rfl, h1⟩ := popI_e h
  obtain ⟨x, r, rfl, h⟩ := popL_e h1
  exact Ex.go (fun C hl hr w => lv_lshl C.1 C.2.1 hd rfl w) (hK _ _ _ _ _ _ h)
theorem s_lcmp {M : MI} {pc nx : Nat}  (hd : decode (mB M) pc = .ok (.lcmp, 1)) (hn : pc + 1 = nx) : SOp M pc (opLcmp nx) := by
  subst hn
  intro E d Q K hK lv st b G I h
  obtain ⟨y, r, rfl, h1⟩ := popL_e h
  obtain ⟨x, r, rfl, h⟩ := popL_e h1
  exact Ex.go (fun C hl hr w => W.lcmp C.1 C.2.1 hd w) (hK _ _ _ _ _ _ h)
theorem s_i2l {M : MI} {pc nx : Nat}  (hd : decode (mB M) pc = .ok (.i2l, 1)) (hn : pc + 1 = nx) : SOp M pc (opI2L nx) := by
  subst hn
  intro E d Q K hK lv st b G I h
  obtain ⟨x, r, rfl, h⟩ := popI_e h
  exact Ex.go (fun C hl hr w => lv_i2l C.1 C.2.1 hd rfl w) (hK _ _ _ _ _ _ h)
theorem s_l2i {M : MI} {pc nx : Nat}  (hd : decode (mB M) pc = .ok (.l2i, 1)) (hn : pc + 1 = nx) : SOp M pc (opL2I nx) := by
  subst hn
  intro E d Q K hK lv st b G I h
  obtain ⟨x, r, rfl, h⟩ := popL_e h
  exact Ex.go (fun C hl hr w => lv_l2i C.1 C.2.1 hd rfl w) (hK _ _ _ _ _ _ h)
theorem s_i2c {M : MI} {pc nx : Nat}  (hd : decode (mB M) pc = .ok (.i2c, 1)) (hn : pc + 1 = nx) : SOp M pc (opI1 (fun x => (x.toUInt32 % 65536).toInt32) nx) := by
  subst hn
  intro E d Q K hK lv st b G I h
  obtain ⟨x, r, rfl, h⟩ := popI_e h
  exact Ex.go (fun C hl hr w => lv_i2c C.1 C.2.1 hd rfl w) (hK _ _ _ _ _ _ h)
theorem s_i2b {M : MI} {pc nx : Nat}  (hd : decode (mB M) pc = .ok (.i2b, 1)) (hn : pc + 1 = nx) : SOp M pc (opI1 (fun x => x.toInt8.toInt32) nx) := by
  subst hn
  intro E d Q K hK lv st b G I h
  obtain ⟨x, r, rfl, h⟩ := popI_e h
  exact Ex.go (fun C hl hr w => lv_i2b C.1 C.2.1 hd rfl w) (hK _ _ _ _ _ _ h)
theorem s_ineg {M : MI} {pc nx : Nat}  (hd : decode (mB M) pc = .ok (.ineg, 1)) (hn : pc + 1 = nx) : SOp M pc (opI1 (fun x => -x) nx) := by
  subst hn
  intro E d Q K hK lv st b G I h
  obtain ⟨x, r, rfl, h⟩ := popI_e h
  exact Ex.go (fun C hl hr w => lv_ineg C.1 C.2.1 hd w) (hK _ _ _ _ _ _ h)
theorem s_dup {M : MI} {pc nx : Nat}  (hd : decode (mB M) pc = .ok (.dup, 1)) (hn : pc + 1 = nx) : SOp M pc (opDup nx) := by
  subst hn
  intro E d Q K hK lv st b G I h
  obtain ⟨x, r, rfl, hx, h⟩ := pop1_e h
  exact Ex.go (fun C hl hr w => lv_dup C.1 C.2.1 hd (cat1_of hx) w) (hK _ _ _ _ _ _ h)
theorem s_pop {M : MI} {pc nx : Nat}  (hd : decode (mB M) pc = .ok (.pop, 1)) (hn : pc + 1 = nx) : SOp M pc (opPop nx) := by
  subst hn
  intro E d Q K hK lv st b G I h
  obtain ⟨x, r, rfl, hx, h⟩ := pop1_e h
  exact Ex.go (fun C hl hr w => lv_pop C.1 C.2.1 hd (cat1_of hx) w) (hK _ _ _ _ _ _ h)
theorem s_dup_x1 {M : MI} {pc nx : Nat}  (hd : decode (mB M) pc = .ok (.dup_x1, 1)) (hn : pc + 1 = nx) : SOp M pc (opDupX1 nx) := by
  subst hn
  intro E d Q K hK lv st b G I h
  obtain ⟨x, r, rfl, hx, h1⟩ := pop1_e h
  obtain ⟨y, r, rfl, hy, h⟩ := pop1_e h1
  exact Ex.go (fun C hl hr w => lv_dup_x1 C.1 C.2.1 hd (cat1_of hx) (cat1_of hy) w) (hK _ _ _ _ _ _ h)
theorem s_dup2 {M : MI} {pc nx : Nat}  (hd : decode (mB M) pc = .ok (.dup2, 1)) (hn : pc + 1 = nx) : SOp M pc (opDup2 nx) := by
  subst hn
  intro E d Q K hK lv st b G I h
  obtain ⟨x, r, rfl, hx, h1⟩ := pop1_e h
  obtain ⟨y, r, rfl, hy, h⟩ := pop1_e h1
  exact Ex.go (fun C hl hr w => lv_dup2_11 C.1 C.2.1 hd (cat1_of hx) (cat1_of hy) w) (hK _ _ _ _ _ _ h)
theorem Ex.if2 {E : EV} {d : Nat} {M : MI} {Q : QT} {pc n1 n2 : Nat} {lv : LVs} {st st' : List Value} {b : Nat × Nat} {G : GD} {I : IM} {c : Prop}
    (f : ∀ {p : Program} {e : Env} {R : Room} {s : State} {m : MethodId} {args : Array Value} {below : List Frame} {meth : Method} {cd : Code} {H : Heap} {locs : List Loc} {cells slots : Nat} {Qw : State → Prop} {ls : Array Slot},
      CX M p s m args meth cd → (c → W p (eL E) e R s m args below meth cd H locs cells slots Qw (F0 m n1 ls (st'.map (tr E)))) → (¬ c → W p (eL E) e R s m args below meth cd H locs cells slots Qw (F0 m n2 ls (st'.map (tr E)))) → W p (eL E) e R s m args below meth cd H locs cells slots Qw (F0 m pc ls (st.map (tr E))))
    (h1 : c → Ex E d M Q n1 lv st' b G I) (h2 : ¬ c → Ex E d M Q n2 lv st' b G I) : Ex E d M Q pc lv st b G I :=
  fun p e R s m args below meth cd H locs cells slots mc ms ls C hr g1 g2 g3 g4 g5 g6 g7 g8 hl => f C (fun hc => h1 hc p e R s m args below meth cd H locs cells slots mc ms ls C hr g1 g2 g3 g4 g5 g6 g7 g8 hl) (fun hc => h2 hc p e R s m args below meth cd H locs cells slots mc ms ls C hr g1 g2 g3 g4 g5 g6 g7 g8 hl)
theorem s_goto {M : MI} {pc tg : Nat} {off : Int} (hd : decode (mB M) pc = .ok (.goto off, 3)) (ht : (pc : Int) + off = (tg : Int)) : SOp M pc (opGoto tg) := by
  intro E d Q K hK lv st b G I h
  exact Ex.go (fun C hl hr w => lv_goto C.1 C.2.1 hd ht w) (hK _ _ _ _ _ _ h)
theorem s_if_eq {M : MI} {pc nx tg : Nat} {off : Int} (hd : decode (mB M) pc = .ok (.ifCond .eq off, 3)) (hn : pc + 3 = nx) (ht : (pc : Int) + off = (tg : Int)) : SOp M pc (opIf1 (fun x => x = 0) tg nx) := by
  subst hn
  intro E d Q K hK lv st b G I h
  obtain ⟨x, r, rfl, h1, h2⟩ := popI_e h
  exact Ex.if2 (fun C w1 w2 => lv_if_eq C.1 C.2.1 hd ht w1 w2) (fun c => hK _ _ _ _ _ _ (h1 c)) (fun c => hK _ _ _ _ _ _ (h2 c))
theorem s_icmp_eq {M : MI} {pc nx tg : Nat} {off : Int} (hd : decode (mB M) pc = .ok (.if_icmp .eq off, 3)) (hn : pc + 3 = nx) (ht : (pc : Int) + off = (tg : Int)) : SOp M pc (opIf2 (fun x y => x = y) tg nx) := by
  subst hn
  intro E d Q K hK lv st b G I h
  obtain ⟨y, r, rfl, h0⟩ := popI_e h
  obtain ⟨x, r, rfl, h1, h2⟩ := popI_e h0
  exact Ex.if2 (fun C w1 w2 => lv_icmp_eq C.1 C.2.1 hd ht w1 w2) (fun c => hK _ _ _ _ _ _ (h1 c)) (fun c => hK _ _ _ _ _ _ (h2 c))
theorem s_if_ne {M : MI} {pc nx tg : Nat} {off : Int} (hd : decode (mB M) pc = .ok (.ifCond .ne off, 3)) (hn : pc + 3 = nx) (ht : (pc : Int) + off = (tg : Int)) : SOp M pc (opIf1 (fun x => x = 0) nx tg) := by
  subst hn
  intro E d Q K hK lv st b G I h
  obtain ⟨x, r, rfl, h1, h2⟩ := popI_e h
  exact Ex.if2 (fun C w1 w2 => lv_if_ne C.1 C.2.1 hd ht w2 w1) (fun c => hK _ _ _ _ _ _ (h1 c)) (fun c => hK _ _ _ _ _ _ (h2 c))
theorem s_icmp_ne {M : MI} {pc nx tg : Nat} {off : Int} (hd : decode (mB M) pc = .ok (.if_icmp .ne off, 3)) (hn : pc + 3 = nx) (ht : (pc : Int) + off = (tg : Int)) : SOp M pc (opIf2 (fun x y => x = y) nx tg) := by
  subst hn
  intro E d Q K hK lv st b G I h
  obtain ⟨y, r, rfl, h0⟩ := popI_e h
  obtain ⟨x, r, rfl, h1, h2⟩ := popI_e h0
  exact Ex.if2 (fun C w1 w2 => lv_icmp_ne C.1 C.2.1 hd ht w2 w1) (fun c => hK _ _ _ _ _ _ (h1 c)) (fun c => hK _ _ _ _ _ _ (h2 c))
theorem s_if_lt {M : MI} {pc nx tg : Nat} {off : Int} (hd : decode (mB M) pc = .ok (.ifCond .lt off, 3)) (hn : pc + 3 = nx) (ht : (pc : Int) + off = (tg : Int)) : SOp M pc (opIf1 (fun x => x < 0) tg nx) := by
  subst hn
  intro E d Q K hK lv st b G I h
  obtain ⟨x, r, rfl, h1, h2⟩ := popI_e h
  exact Ex.if2 (fun C w1 w2 => lv_if_lt C.1 C.2.1 hd ht w1 w2) (fun c => hK _ _ _ _ _ _ (h1 c)) (fun c => hK _ _ _ _ _ _ (h2 c))
theorem s_icmp_lt {M : MI} {pc nx tg : Nat} {off : Int} (hd : decode (mB M) pc = .ok (.if_icmp .lt off, 3)) (hn : pc + 3 = nx) (ht : (pc : Int) + off = (tg : Int)) : SOp M pc (opIf2 (fun x y => x < y) tg nx) := by
  subst hn
  intro E d Q K hK lv st b G I h
  obtain ⟨y, r, rfl, h0⟩ := popI_e h
  obtain ⟨x, r, rfl, h1, h2⟩ := popI_e h0
  exact Ex.if2 (fun C w1 w2 => lv_icmp_lt C.1 C.2.1 hd ht w1 w2) (fun c => hK _ _ _ _ _ _ (h1 c)) (fun c => hK _ _ _ _ _ _ (h2 c))
theorem s_if_ge {M : MI} {pc nx tg : Nat} {off : Int} (hd : decode (mB M) pc = .ok (.ifCond .ge off, 3)) (hn : pc + 3 = nx) (ht : (pc : Int) + off = (tg : Int)) : SOp M pc (opIf1 (fun x => 0 ≤ x) tg nx) := by
  subst hn
  intro E d Q K hK lv st b G I h
  obtain ⟨x, r, rfl, h1, h2⟩ := popI_e h
  exact Ex.if2 (fun C w1 w2 => lv_if_ge C.1 C.2.1 hd ht w1 w2) (fun c => hK _ _ _ _ _ _ (h1 c)) (fun c => hK _ _ _ _ _ _ (h2 c))
theorem s_icmp_ge {M : MI} {pc nx tg : Nat} {off : Int} (hd : decode (mB M) pc = .ok (.if_icmp .ge off, 3)) (hn : pc + 3 = nx) (ht : (pc : Int) + off = (tg : Int)) : SOp M pc (opIf2 (fun x y => y ≤ x) tg nx) := by
  subst hn
  intro E d Q K hK lv st b G I h
  obtain ⟨y, r, rfl, h0⟩ := popI_e h
  obtain ⟨x, r, rfl, h1, h2⟩ := popI_e h0
  exact Ex.if2 (fun C w1 w2 => lv_icmp_ge C.1 C.2.1 hd ht w1 w2) (fun c => hK _ _ _ _ _ _ (h1 c)) (fun c => hK _ _ _ _ _ _ (h2 c))
theorem s_if_gt {M : MI} {pc nx tg : Nat} {off : Int} (hd : decode (mB M) pc = .ok (.ifCond .gt off, 3)) (hn : pc + 3 = nx) (ht : (pc : Int) + off = (tg : Int)) : SOp M pc (opIf1 (fun x => 0 < x) tg nx) := by
  subst hn
  intro E d Q K hK lv st b G I h
  obtain ⟨x, r, rfl, h1, h2⟩ := popI_e h
  exact Ex.if2 (fun C w1 w2 => lv_if_gt C.1 C.2.1 hd ht w1 w2) (fun c => hK _ _ _ _ _ _ (h1 c)) (fun c => hK _ _ _ _ _ _ (h2 c))
theorem s_icmp_gt {M : MI} {pc nx tg : Nat} {off : Int} (hd : decode (mB M) pc = .ok (.if_icmp .gt off, 3)) (hn : pc + 3 = nx) (ht : (pc : Int) + off = (tg : Int)) : SOp M pc (opIf2 (fun x y => y < x) tg nx) := by
  subst hn
  intro E d Q K hK lv st b G I h
  obtain ⟨y, r, rfl, h0⟩ := popI_e h
  obtain ⟨x, r, rfl, h1, h2⟩ := popI_e h0
  exact Ex.if2 (fun C w1 w2 => lv_icmp_gt C.1 C.2.1 hd ht w1 w2) (fun c => hK _ _ _ _ _ _ (h1 c)) (fun c => hK _ _ _ _ _ _ (h2 c))
theorem s_if_le {M : MI} {pc nx tg : Nat} {off : Int} (hd : decode (mB M) pc = .ok (.ifCond .le off, 3)) (hn : pc + 3 = nx) (ht : (pc : Int) + off = (tg : Int)) : SOp M pc (opIf1 (fun x => x ≤ 0) tg nx) := by
  subst hn
  intro E d Q K hK lv st b G I h
  obtain ⟨x, r, rfl, h1, h2⟩ := popI_e h
  exact Ex.if2 (fun C w1 w2 => lv_if_le C.1 C.2.1 hd ht w1 w2) (fun c => hK _ _ _ _ _ _ (h1 c)) (fun c => hK _ _ _ _ _ _ (h2 c))
theorem s_icmp_le {M : MI} {pc nx tg : Nat} {off : Int} (hd : decode (mB M) pc = .ok (.if_icmp .le off, 3)) (hn : pc + 3 = nx) (ht : (pc : Int) + off = (tg : Int)) : SOp M pc (opIf2 (fun x y => x ≤ y) tg nx) := by
  subst hn
  intro E d Q K hK lv st b G I h
  obtain ⟨y, r, rfl, h0⟩ := popI_e h
  obtain ⟨x, r, rfl, h1, h2⟩ := popI_e h0
  exact Ex.if2 (fun C w1 w2 => lv_icmp_le C.1 C.2.1 hd ht w1 w2) (fun c => hK _ _ _ _ _ _ (h1 c)) (fun c => hK _ _ _ _ _ _ (h2 c))
theorem Ex.ret {E : EV} {d : Nat} {M : MI} {Q : QT} {pc : Nat} {lv : LVs} {st : List Value} {b : Nat × Nat} {G : GD} {I : IM} {r : Option Value} (hQ : Q r G I)
    (f : ∀ {p : Program} {e : Env} {R : Room} {s : State} {m : MethodId} {args : Array Value} {below : List Frame} {meth : Method} {c : Code} {H : Heap} {locs : List Loc} {cells slots : Nat} {ls : Array Slot} {Qc : Array Value → State → Outcome → State → Prop},
      CX M p s m args meth c → (∀ t : State, t.heap = H → s.WarmedH t.vm → Qc args s (.returned (r.map (tr E))) t) → (∀ q ∈ locs, eAA E q.base) → W p (eL E) e R s m args below meth c H locs cells slots (MQ below Qc args s cells slots (eAA E)) (F0 m pc ls (st.map (tr E)))) : Ex E d M Q pc lv st b G I := by
  intro p e R s m args below meth c H locs cells slots mc ms ls C hr h1 h2 h3 h4 h5 h6 h7 h8 hl
  refine W.widen (k := mc) (n := ms) (by omega) (by omega) ?_
  refine f C (fun t ht hW => ⟨⟨r, G, I, rfl, hQ, by rw [ht]; exact hr.moved hW⟩, h1.F ht⟩) h1.2.2
theorem s_iret {M : MI} {pc : Nat} (hd : decode (mB M) pc = .ok (.ireturn, 1)) (hr : mR M = some .int) : SOp M pc opIRet := by
  intro E d Q K hK lv st b G I h
  obtain ⟨x, r, rfl, rfl, hQ⟩ := popI_e h
  exact Ex.ret (r := some (.int x)) hQ (fun C hq hf => W.iret C.1 C.2.1 (C.2.2.1.trans hr) hq hf hd C.2.2.2.2.2.2.1)
theorem nar_bool {x : Int32} (h : x = 0 ∨ x = 1) : narrow .boolean (.int x) = .int x := by
  rcases h with rfl | rfl <;> rfl
theorem s_zret {M : MI} {pc : Nat} (hd : decode (mB M) pc = .ok (.ireturn, 1)) (hr : mR M = some .boolean) : SOp M pc opZRet := by
  intro E d Q K hK lv st b G I h
  obtain ⟨x, r, rfl, rfl, hx, hQ⟩ := popI_e h
  exact Ex.ret (r := some (.int x)) hQ (fun C hq hf => W.zret C.1 C.2.1 (C.2.2.1.trans hr) (nar_bool hx) hq hf hd C.2.2.2.2.2.2.1)
theorem s_lret {M : MI} {pc : Nat} (hd : decode (mB M) pc = .ok (.lreturn, 1)) (hr : mR M = some .long) : SOp M pc opLRet := by
  intro E d Q K hK lv st b G I h
  obtain ⟨x, r, rfl, rfl, hQ⟩ := popL_e h
  exact Ex.ret (r := some (.long x)) hQ (fun C hq hf => W.lret C.1 C.2.1 (C.2.2.1.trans hr) hq hf hd C.2.2.2.2.2.2.1)
theorem s_vret {M : MI} {pc : Nat} (hd : decode (mB M) pc = .ok (.return_, 1)) (hr : mR M = none) : SOp M pc opVRet := by
  intro E d Q K hK lv st b G I h
  obtain ⟨rfl, h⟩ := h
  exact Ex.ret (r := none) h (fun C hq hf => W.vret C.1 C.2.1 (C.2.2.1.trans hr) hq hf hd C.2.2.2.2.2.2.1)
