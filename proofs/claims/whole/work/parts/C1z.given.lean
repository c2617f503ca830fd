/-! ===== what is given at the law's start ===== -/
section
variable {s : State} {args : Array Value}
theorem ev_eq {t : Term} {v : Int32} (h : (Cond.eq t (.int v)).before args s = true) : t.eval args s none [] s = some (.int v) := by
  obtain ⟨w, h1, h2⟩ := Cond.eq_one h
  cases h2
  exact h1
theorem inst_in : ∀ c, c < 12 → Cond.instantiable (RR c) (nfl c) ∈ lw_tbl := by decide +kernel
theorem cl_none {c : Nat} (h : ¬ c < 12) : vwCl[c]? = none := List.getElem?_eq_none (by
  have : vwCl.length = 12 := by decide
  omega)
theorem arr_of {ty : FieldType} (h : (Cond.arrayClass ty).before args s = true) : ∃ cA, ArrOfT s cA ty ∧ s.vm.findClass ("[" ++ ty.toString) = some cA := by
  obtain ⟨cA, kA, comp, h1, h2, h3⟩ := Cond.arrayClass_spec h
  exact ⟨cA, fun n z => ⟨fun k h => (by cases h), kA, h2, comp, h3⟩, h1⟩
theorem given_K (hts : ∀ w ∈ lw_tbl, w.before args s = true) : ∃ (D : va_G) (A : Nat → ClassId), va_K D vwCl [(A 100, .int), (A 101, .long), (A 102, .boolean), (A 104, .object RX6), (A 105, .array .int)] s := by
  have hk : ∀ c, ∃ (q : ClassId × (Nat → Nat)), c < 12 → u_Kn s (RR c) (TT c) (nfl c) q.1 q.2 := fun c => by
    by_cases hc : c < 12
    · obtain ⟨x, y, h⟩ := u_known (T := TT c) (N := nfl c) hts (cl_in0 c hc) (hts _ (inst_in c hc))
      exact ⟨(x, y), fun _ => h⟩
    · exact ⟨(0, fun _ => 0), fun z => absurd z hc⟩
  obtain ⟨a0, i1, i2⟩ := arr_of (hts (.arrayClass .int) (mT1 (List.mem_of_getElem? (i := 48) rfl)))
  obtain ⟨a1, j1, j2⟩ := arr_of (hts (.arrayClass .long) (mT8 (List.mem_of_getElem? (i := 69) rfl)))
  obtain ⟨a2, k1, k2⟩ := arr_of (hts (.arrayClass .boolean) (mT6 (List.mem_of_getElem? (i := 53) rfl)))
  obtain ⟨comp, a4, kA, o1, -, o2, o3, o4⟩ := Cond.arrayOver_spec (hts (.arrayOver (.object RX6)) (mT2 (List.mem_of_getElem? (i := 26) rfl)))
  obtain ⟨comp5, a5, kA5, p1, p2, p3, p4⟩ := Cond.arrayOver_specA (hts (.arrayOver (.array .int)) (mT1 (List.mem_of_getElem? (i := 214) rfl)))
  refine ⟨(fun c => (Classical.choose (hk c)).1, fun c => (Classical.choose (hk c)).2), fun n => if n = 100 then a0 else if n = 101 then a1 else if n = 102 then a2 else if n = 104 then a4 else a5, fun c q hq => ?_, fun k q hq => ?_⟩
  · by_cases hc : c < 12
    · rw [cl_at hc] at hq
      cases hq
      exact Classical.choose_spec (hk c) hc
    · rw [cl_none hc] at hq
      cases hq
  · match k, hq with
    | 0, hq => cases hq; exact ⟨i1, i2⟩
    | 1, hq => cases hq; exact ⟨j1, j2⟩
    | 2, hq => cases hq; exact ⟨k1, k2⟩
    | 3, hq => cases hq; exact ⟨fun n z => ⟨fun k h => (by cases h), kA, o2, comp, o3⟩, kA, comp, o2, o3, o1, o4⟩
    | 4, hq => cases hq; exact ⟨fun n z => ⟨fun k h => (by cases h), kA5, p2, comp5, p3⟩, p4⟩
    | n + 5, hq => cases hq
/-- a static array of ints -/
theorem given_S {n : String} {N : Nat} {f : Nat → Int32} (hN : N < 2 ^ 31) (hl : (Cond.laysStatic RX9 n "[I").before args s = true) (hini : (Cond.initialized RX9).before args s = true) (harr : (Cond.arrayOf (.static RX9 n "[I") .int).before args s = true) (hlen : (Cond.eq (.length (.static RX9 n "[I")) (.int (Int32.ofNat N))).before args s = true) (hel : ∀ j, j < N → (Cond.eq (.elem (.static RX9 n "[I") (.int (Int32.ofNat j))) (.int (f j))).before args s = true) :
    ∃ t : Nat, va_T .int t N (fun k => .int (f k)) (fun q => s.heap.size ≤ q) s s.heap ∧ va_Z RX9 n "[I" (.ref t) (fun q => s.heap.size ≤ q) s s.heap := by
  obtain ⟨t, h1, h2⟩ := va_Tof (A := fun q => s.heap.size ≤ q) (f := fun k => .int (f k)) hN harr (ev_eq hlen) (fun j hj => ev_eq (hel j hj)) (fun a ha z => absurd z (by omega))
  exact ⟨t, h2, va_Zof hl hini h1 (fun a ha z => absurd z (by omega))⟩
/-- a text constant, its bytes -/
theorem given_T {own tx : String} {k N : Nat} {f : Nat → Int32} (hN : N < 2 ^ 31) (hr : (Cond.stringRef own k tx).before args s = true) (hex : (Cond.exactly (.string own k) "java/lang/String").before args s = true) (hc : (Cond.eq (.field (.string own k) "java/lang/String" "coder" "B") (.int 0)).before args s = true) (harr : (Cond.arrayOf (.field (.string own k) "java/lang/String" "value" "[B") .byte).before args s = true) (hlen : (Cond.eq (.length (.field (.string own k) "java/lang/String" "value" "[B")) (.int (Int32.ofNat N))).before args s = true) (hel : ∀ j, j < N → (Cond.eq (.elem (.field (.string own k) "java/lang/String" "value" "[B") (.int (Int32.ofNat j))) (.int (f j))).before args s = true) :
    ∃ a t : Nat, (Term.string own k).eval args s none [] s = some (.ref a) ∧ vk_R own k tx a s ∧ va_O "java/lang/String" a (fun q => s.heap.size ≤ q) s s.heap ∧ va_OF "java/lang/String" "coder" "B" (.int 0) a (fun q => s.heap.size ≤ q) s s.heap ∧ va_OF "java/lang/String" "value" "[B" (.ref t) a (fun q => s.heap.size ≤ q) s s.heap ∧ va_T .byte t N (fun k => .int (f k)) (fun q => s.heap.size ≤ q) s s.heap := by
  have hA : ∀ a : Nat, a < s.heap.size → ¬ s.heap.size ≤ a := fun a ha z => absurd z (by omega)
  obtain ⟨a, c, cell, kc, ht, -⟩ := Cond.exactly_spec (args := args) (first := s) (o := none) (s := s) (idx := []) hex
  obtain ⟨t, h1, h2⟩ := va_Tof (A := fun q => s.heap.size ≤ q) (f := fun k => .int (f k)) hN harr (ev_eq hlen) (fun j hj => ev_eq (hel j hj)) hA
  exact ⟨a, t, ht, vk_R.of hr ht, va_Oof hex ht hA, vk_OFof ht (ev_eq hc) hA, vk_OFof ht h1 hA, h2⟩
/-- only the reference of a text constant -/
theorem given_R {own tx : String} {k : Nat} (hr : (Cond.stringRef own k tx).before args s = true) (hex : (Cond.exactly (.string own k) "java/lang/String").before args s = true) : ∃ a : Nat, vk_R own k tx a s := by
  obtain ⟨a, c, cell, kc, ht, -⟩ := Cond.exactly_spec (args := args) (first := s) (o := none) (s := s) (idx := []) hex
  exact ⟨a, vk_R.of hr ht⟩
end
