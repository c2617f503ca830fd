/-! ===== switches, copies, what makes cells ===== -/
def swK (K : Nat → Prop) (x : Int32) : List (Int32 × Nat) → Nat → Prop
  | [], t => K t
  | (v, t) :: r, df => (x = v → K t) ∧ (¬ x = v → swK K x r df)
theorem swK_0 (K : Nat → Prop) (x : Int32) (t : Nat) : swK K x [] t = K t := rfl
theorem swK_s (K : Nat → Prop) (x v : Int32) (t df : Nat) (r : List (Int32 × Nat)) : swK K x ((v, t) :: r) df = ((x = v → K t) ∧ (¬ x = v → swK K x r df)) := rfl
def swt (x : Int32) : List (Int32 × Nat) → Nat → Nat
  | [], df => df
  | (v, t) :: r, df => if x = v then t else swt x r df
theorem swK_e {K : Nat → Prop} {x : Int32} : ∀ {cs : List (Int32 × Nat)} {df : Nat}, swK K x cs df → K (swt x cs df)
  | [], _, h => h
  | (v, t) :: r, df, h => by
    unfold swt
    by_cases e : x = v
    · rw [if_pos e]; exact h.1 e
    · rw [if_neg e]; exact swK_e (h.2 e)
def opSw (cs : List (Int32 × Nat)) (df : Nat) : OP := fun _ _ _ K lv st b G I => popI st fun x r => swK (fun t => K t lv r b G I) x cs df
def lsOK (pc : Nat) : List (Int × Int) → List (Int32 × Nat) → Bool
  | [], [] => true
  | (k, o) :: r, (v, t) :: q => v.toInt == k && (pc : Int) + o == (t : Int) && lsOK pc r q
  | _, _ => false
theorem ls_t {pc : Nat} {dflt : Int} {df : Nat} (hd : (pc : Int) + dflt = df) (x : Int32) : ∀ (ps : List (Int × Int)) (cs : List (Int32 × Nat)), lsOK pc ps cs = true → (pc : Int) + Op.lookupswitch.offset ps dflt x.toInt = ((swt x cs df : Nat) : Int)
  | [], [], _ => hd
  | [], _ :: _, h => by cases h
  | _ :: _, [], h => by simp [lsOK] at h
  | (k, o) :: r, (v, t) :: q, h => by
    unfold lsOK at h
    simp only [Bool.and_eq_true, beq_iff_eq] at h
    obtain ⟨⟨h1, h2⟩, h3⟩ := h
    show (pc : Int) + (if k = x.toInt then o else Op.lookupswitch.offset r dflt x.toInt) = ((if x = v then t else swt x q df : Nat) : Int)
    by_cases e : x = v
    · rw [if_pos e, if_pos (by rw [e, h1])]
      exact h2
    · rw [if_neg e, if_neg (fun hk => e (Int32.toInt_inj.mp (by rw [h1, hk])))]
      exact ls_t hd x r q h3
def tsOK (pc : Nat) (lo hi : Int) (offs : Array Int) (cs : List (Int32 × Nat)) (df : Nat) : Bool :=
  (hi - lo + 1 == (offs.size : Int)) && (List.range offs.size).all (fun i => (offs[i]?).map (fun o => (pc : Int) + o) == some ((swt (Int32.ofInt (lo + (i : Int))) cs df : Nat) : Int)) && cs.all (fun c => decide (lo ≤ c.1.toInt) && decide (c.1.toInt ≤ hi))
theorem swt_out {lo hi : Int} {x : Int32} {df : Nat} (hx : x.toInt < lo ∨ hi < x.toInt) : ∀ cs : List (Int32 × Nat), cs.all (fun c => decide (lo ≤ c.1.toInt) && decide (c.1.toInt ≤ hi)) = true → swt x cs df = df
  | [], _ => rfl
  | (v, t) :: r, h => by
    rw [List.all_cons, Bool.and_eq_true] at h
    simp only [Bool.and_eq_true, decide_eq_true_eq] at h
    unfold swt
    rw [if_neg (fun e => by subst e; have h1 := h.1.1; have h2 := h.1.2; rcases hx with q | q <;> exact absurd q (by omega))]
    exact swt_out hx r h.2
section
variable {E : EV} {d : Nat} {M M' : MI} {Q : QT} {pc nx : Nat} {lv : LVs} {st : List Value} {b : Nat × Nat} {G G' : GD} {I I' : IM}
theorem s_lookup {dflt : Int} {ps : Array (Int × Int)} {len : Nat} {cs : List (Int32 × Nat)} {df : Nat} (hd : decode (mB M) pc = .ok (.lookupswitch dflt ps, len)) (hp : (ps.toList.zip (ps.toList.drop 1)).all (fun (a, next) => a.1 < next.1) = true) (hdf : (pc : Int) + dflt = (df : Int)) (hc : lsOK pc ps.toList cs = true) : SOp M pc (opSw cs df) := by
  intro E d Q K hK lv st b G I h
  obtain ⟨x, r, rfl, h⟩ := popI_e h
  have h1 := swK_e h
  exact Ex.go (fun C hl hr w => lv_lookup C.1 C.2.1 hd hp rfl (ls_t hdf x _ _ hc) w) (hK _ _ _ _ _ _ h1)
theorem s_table {dflt lo hi : Int} {offs : Array Int} {len : Nat} {cs : List (Int32 × Nat)} {df : Nat} (hd : decode (mB M) pc = .ok (.tableswitch dflt lo hi offs, len)) (hdf : (pc : Int) + dflt = (df : Int)) (hc : tsOK pc lo hi offs cs df = true) : SOp M pc (opSw cs df) := by
  intro E d Q K hK lv st b G I h
  obtain ⟨x, r, rfl, h⟩ := popI_e h
  have h1 := swK_e h
  unfold tsOK at hc
  simp only [Bool.and_eq_true, beq_iff_eq] at hc
  obtain ⟨⟨c1, c2⟩, c3⟩ := hc
  by_cases o1 : x.toInt < lo ∨ hi < x.toInt
  · rw [swt_out o1 cs c3] at h1
    exact Ex.go (fun C hl hr w => lv_tableOut C.1 C.2.1 hd o1 hdf w) (hK _ _ _ _ _ _ h1)
  · have n1 : ¬ x.toInt < lo := fun q => o1 (Or.inl q)
    have n2 : ¬ hi < x.toInt := fun q => o1 (Or.inr q)
    have hi2 : (x.toInt - lo).toNat < offs.size := by omega
    have := List.all_eq_true.mp c2 (x.toInt - lo).toNat (List.mem_range.mpr hi2)
    rw [show lo + (((x.toInt - lo).toNat : Nat) : Int) = x.toInt by omega, Int32.ofInt_toInt] at this
    cases ho : offs[(x.toInt - lo).toNat]? with
    | none => rw [ho] at this; simp at this
    | some o =>
      rw [ho] at this
      simp only [Option.map_some, beq_iff_eq, Option.some.injEq] at this
      exact Ex.go (fun C hl hr w => lv_tableIn C.1 C.2.1 hd n1 n2 ho this w) (hK _ _ _ _ _ _ h1)
/-! System.arraycopy between arrays of ints -/
def opCopy (nx : Nat) : OP := fun _ d _ K lv st b G I => popI st fun n r => popI r fun dp r => popR r fun a r => popI r fun sp r => popR r fun a0 r =>
  0 < d ∧ catS r ≤ 8 ∧ okO G a0 100 ∧ okO G a 100 ∧ ¬ sp < 0 ∧ ¬ dp < 0 ∧ ¬ n < 0 ∧ sp.toNatClampNeg + n.toNatClampNeg ≤ gL G a0 ∧ dp.toNatClampNeg + n.toNatClampNeg ≤ gL G a ∧
  K nx lv r b G (upr I a (va_cpy (I a0) (I a) sp.toNatClampNeg dp.toNatClampNeg n.toNatClampNeg))
theorem clamp_int {z : Int32} (hz : ¬ z < 0) : z.toInt = (z.toNatClampNeg : Int) := by
  have hz0 : (0 : Int) ≤ z.toInt := by
    have := Int32.not_lt.mp hz
    simpa using Int32.le_iff_toInt_le.mp this
  show z.toInt = ((z.toInt.toNat : Nat) : Int)
  omega
theorem upr_ne {α : Type} {f : Nat → Nat → α} {a b : Nat} {r : Nat → α} (h : b ≠ a) : upr f a r b = f b := by
  funext j
  simp [upr, h]
theorem s_copy {idx : Nat} (hd : decode (mB M) pc = .ok (.invokestatic idx, 3)) (hn : pc + 3 = nx) (hw1 : Cond.methodLink (mY M).cls idx arraycopyName ∈ lw_tbl) (hw2 : Cond.native arraycopyName ∈ lw_tbl) (hw3 : Cond.static arraycopyName ∈ lw_tbl) (hw4 : Cond.initialized "java/lang/System" ∈ lw_tbl) : SOp M pc (opCopy nx) := by
  subst hn
  intro E d Q K hK lv st b G I h
  obtain ⟨n, r, rfl, y1⟩ := popI_e h
  obtain ⟨dp, r, rfl, y2⟩ := popI_e y1
  obtain ⟨a, r, rfl, y3⟩ := popR_e y2
  obtain ⟨sp, r, rfl, y4⟩ := popI_e y3
  obtain ⟨a0, rest, rfl, hd0, hcat, ⟨g0, g00⟩, ⟨g1, g11⟩, n1, n2, n3, h4, h5, y5⟩ := popR_e y4
  have hE := hK _ _ _ _ _ _ y5
  intro p e R s m args below meth c H locs cells slots mc ms ls C hr hS hB hF hL hc hs hmc hms hl T hT X
  have hc0 := (hr.2.2.1 a0 g0).2 (by rw [g00]; decide)
  have hc1 := (hr.2.2.1 a g1).2 (by rw [g11]; decide)
  rw [g00] at hc0
  rw [g11] at hc1
  have hc0 : H[eB E + a0]? = some (arrV (eA E 100) (gL G a0) (fun k => .int (I a0 k))) := hc0
  have hc1 : H[eB E + a]? = some (arrV (eA E 100) (gL G a) (fun k => .int (I a k))) := hc1
  obtain ⟨-, k0, hk0, cm0, hkk0⟩ := (hr.K.2 0 _ rfl).1 (gL G a0) (fun j => .int (I a0 j))
  obtain ⟨-, k1, hk1, cm1, hkk1⟩ := (hr.K.2 0 _ rfl).1 (gL G a) (fun j => .int (I a j))
  have ein : ∀ z : Nat, (.ref z : Value) = .ref z := fun _ => rfl
  obtain ⟨vm', X', step⟩ := X.arraycopy C.1 C.2.2.2.2.1 (C.2.2.2.2.2.1 _ (inG hw1 rfl)) (C.2.2.2.2.2.1 _ (inG hw2 rfl)) (C.2.2.2.2.2.1 _ (inG hw3 rfl)) (C.2.2.2.2.2.1 _ (inG hw4 rfl)) (src := eB E + a0) (dst := eB E + a) (cs := arrV (eA E 100) (gL G a0) (fun k => .int (I a0 k))) (cd := arrV (eA E 100) (gL G a) (fun k => .int (I a k))) (srcPos := sp) (destPos := dp) (n := n) (by rw [hT]; exact hc0) (by rw [hT]; exact hc1)
    (fun _ h => by cases h) (fun _ h => by cases h) (fun h => by cases h) (fun h => by cases h) hk0 hk1 hkk0 hkk1 (by simp [refKind]) n1 n2 n3
    (by rw [clamp_int n1, clamp_int n3, arrV_size]; omega)
    (by rw [clamp_int n2, clamp_int n3, arrV_size]; omega)
    (fun vm₁ _ i hi => by
      have e9 : (arrV (eA E 100) (gL G a0) (fun k => .int (I a0 k))).slots.getD (sp.toNatClampNeg + i) .null = .int (I a0 (sp.toNatClampNeg + i)) := by
        rw [Array.getD_eq_getD_getElem?, arrV_read _ _ (by omega)]
        rfl
      refine ⟨?_, ?_⟩
      · rw [e9]
        rfl
      · rw [e9]
        exact trivial)
    (g := F0 m pc ls (.int n :: .int dp :: .ref (eB E + a) :: .int sp :: .ref (eB E + a0) :: rest.map (tr E))) rfl (by rw [C.2.2.2.1]; exact hl.1) (rest := rest.map (tr E)) rfl (by rw [C.2.1]; exact hd) (by omega) (by
      show 2 * 0 + _ + _ ≤ _
      rw [catS_eq]
      have : nativeFrameWords "java/lang/System" "arraycopy" 5 = 7 := by decide +kernel
      rw [this]
      omega)
  have e1 : copied (arrV (eA E 100) (gL G a0) (fun k => .int (I a0 k))) (arrV (eA E 100) (gL G a) (fun k => .int (I a k))) sp dp n = arrV (eA E 100) (gL G a) (fun k => .int (va_cpy (I a0) (I a) sp.toNatClampNeg dp.toNatClampNeg n.toNatClampNeg k)) := va_copied (fun z => .int z) _ _ (I a0) (I a) h4
  rw [e1] at X' step
  have hla : eB E + a < H.size := (Array.getElem?_eq_some_iff.mp hc1).1
  generalize hZ : arrV (eA E 100) (gL G a) (fun k => .int (va_cpy (I a0) (I a) sp.toNatClampNeg dp.toNatClampNeg n.toNatClampNeg k)) = Z at X' step
  have hheap : ((T.setVm vm').setCell (eB E + a) Z).heap = H.setIfInBounds (eB E + a) Z := by rw [← hT]; rfl
  have oq : ∀ q : Nat, q ≠ eB E + a → (H.setIfInBounds (eB E + a) Z)[q]? = H[q]? := fun q hq => by simp [Array.getElem?_setIfInBounds, Ne.symm hq]
  have hr1 : HR E G (upr I a (va_cpy (I a0) (I a) sp.toNatClampNeg dp.toNatClampNeg n.toNatClampNeg)) s (H.setIfInBounds (eB E + a) Z) := by
    refine hr.upd g1 (by simp) oq rfl (fun b hb => ⟨rfl, rfl, rfl, rfl, upr_ne hb⟩) ?_
    unfold cellOK
    rw [g11]
    refine ⟨fun h => absurd h (by decide), fun _ => ?_⟩
    have : (H.setIfInBounds (eB E + a) Z)[eB E + a]? = some Z := by simp [Array.getElem?_setIfInBounds, hla]
    rw [this, ← hZ]
    congr 2
    funext k
    show _ = Value.int (upr I a _ a k)
    simp [upr]
  have hS1 : ∀ L : List Loc, (∀ q ∈ L, eAA E q.base) → va_S (eAA E) s.heap (H.setIfInBounds (eB E + a) Z) (locs ++ L) := fun L hLL => ⟨by simp; exact hS.1, fun q g1 g2 => by
      rw [oq q (fun e => g2 (by rw [e]; exact Nat.le_add_right _ _))]
      exact hS.2.1 q g1 g2, fun q hq => by
      rcases List.mem_append.mp hq with h | h
      · exact hS.2.2 q h
      · exact hLL q h⟩
  obtain ⟨t, a1, b1⟩ := hE p e R s m args below meth c _ _ cells slots mc ms ls C hr1 (hS1 _ (fun q h => by
      obtain ⟨z, -, hz⟩ := List.mem_map.mp h
      rw [← hz]
      exact Nat.le_add_right _ _)) hB hF hL hc hs hmc hms hl _ hheap X'
  refine ⟨t, ?_, b1⟩
  have := step t a1
  rw [← ad_own hr g0, ← ad_own hr g1] at this
  exact this
end
