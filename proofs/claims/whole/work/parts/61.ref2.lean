/-! ===== the reference: a sunset ===== -/
/-- a town's State as it may be: P persons -/
def SVok (P : Nat) (V : SV) : Prop := (∀ k, k < 12 → rng (V 1 k) 4 ∧ rng (V 2 k) 4 ∧ rng (V 3 k) 30 ∧ rng (V 4 k) 2) ∧ ∃ t : Nat, t < 2 ^ P ∧ V 0 4 = nI t
theorem SVok.congr {P : Nat} {V W : SV} (h : eqS V W) (hV : SVok P V) : SVok P W := by
  obtain ⟨h1, t, ht, h2⟩ := hV
  refine ⟨fun k hk => ?_, t, ht, by rw [← h 0 4 in04]; exact h2⟩
  rw [← eqS_row h (r := 1) (by decide) (by decide) hk, ← eqS_row h (r := 2) (by decide) (by decide) hk, ← eqS_row h (r := 3) (by decide) (by decide) hk, ← eqS_row h (r := 4) (by decide) (by decide) hk]
  exact h1 k hk
/-- the first k of a row are g's -/
def prt (V : SV) (r : Nat) (g : Nat → Int32) (k : Nat) : SV := fun a j => if a = r ∧ j < k then g j else V a j
theorem prt_0 (V : SV) (r : Nat) (g : Nat → Int32) : prt V r g 0 = V := by
  funext a j
  unfold prt
  rw [if_neg (by omega)]
theorem prt_s (V : SV) (r : Nat) (g : Nat → Int32) (k : Nat) : up2 (prt V r g k) r k (g k) = prt V r g (k + 1) := by
  funext a j
  unfold up2 prt
  by_cases e : a = r
  · subst e
    by_cases e2 : j = k
    · subst e2
      rw [if_pos rfl, if_pos rfl, if_pos ⟨rfl, by omega⟩]
    · rw [if_pos rfl, if_neg e2]
      by_cases e3 : j < k
      · rw [if_pos ⟨rfl, e3⟩, if_pos ⟨rfl, by omega⟩]
      · rw [if_neg (fun z => e3 z.2), if_neg (fun z => by omega)]
  · rw [if_neg e, if_neg (fun z => e z.1), if_neg (fun z => e z.1)]
theorem prt_k {V : SV} {r : Nat} {g : Nat → Int32} {k : Nat} (h : g k = V r k) : prt V r g (k + 1) = prt V r g k := by
  funext a j
  unfold prt
  by_cases e : a = r
  · subst e
    by_cases e2 : j = k
    · subst e2
      rw [if_pos ⟨rfl, by omega⟩, if_neg (fun z => by omega), h]
    · by_cases e3 : j < k
      · rw [if_pos ⟨rfl, Nat.lt_succ_of_lt e3⟩, if_pos ⟨rfl, e3⟩]
      · rw [if_neg (fun z => by omega), if_neg (fun z => e3 z.2)]
  · rw [if_neg (fun z => e z.1), if_neg (fun z => e z.1)]
theorem prt_ne {V : SV} {r a : Nat} {g : Nat → Int32} {k : Nat} (h : a ≠ r) : prt V r g k a = V a := by
  funext j
  unfold prt
  rw [if_neg (fun z => h z.1)]
theorem prt_hi {V : SV} {r j : Nat} {g : Nat → Int32} {k : Nat} (h : k ≤ j) : prt V r g k r j = V r j := by
  unfold prt
  rw [if_neg (fun z => by omega)]
theorem prt_all {V : SV} {r : Nat} {g : Nat → Int32} (hr : 1 ≤ r) : eqS (prt V r g 12) (upr V r g) := fun a j hj => by
  unfold prt upr
  by_cases e : a = r
  · subst e
    have : j < 12 := by unfold inSt at hj; omega
    rw [if_pos ⟨rfl, this⟩, if_pos rfl]
  · rw [if_neg (fun z => e z.1), if_neg e]
def faG (f : Int32) (V : SV) (q : Nat) : Int32 := wbf (V 3 q) (V 4 q) f
def faV (f : Int32) (V : SV) : SV := upr V 3 (faG f V)
theorem m1bit {i : Nat} (hi : i < 32) : (-1 : Int32).toBitVec.getLsbD i = true := by
  rw [show (-1 : Int32).toBitVec = BitVec.allOnes 32 from rfl, BitVec.getLsbD_allOnes]
  simp [hi]
theorem bw1 (t s b : Int32) : t &&& (s ^^^ -1) &&& (b ^^^ -1) = t &&& ((s ||| b) ^^^ -1) := by
  apply Int32.toBitVec_inj.mp
  simp only [Int32.toBitVec_and, Int32.toBitVec_or, Int32.toBitVec_xor]
  apply BitVec.eq_of_getLsbD_eq
  intro i hi
  simp only [BitVec.getLsbD_and, BitVec.getLsbD_xor, BitVec.getLsbD_or, m1bit hi]
  cases t.toBitVec.getLsbD i <;> cases s.toBitVec.getLsbD i <;> cases b.toBitVec.getLsbD i <;> rfl
theorem bw2 (t s : Int32) : t &&& ((t &&& (s ^^^ -1)) ^^^ -1) = t &&& s := by
  apply Int32.toBitVec_inj.mp
  simp only [Int32.toBitVec_and, Int32.toBitVec_xor]
  apply BitVec.eq_of_getLsbD_eq
  intro i hi
  simp only [BitVec.getLsbD_and, BitVec.getLsbD_xor, m1bit hi]
  cases t.toBitVec.getLsbD i <;> cases s.toBitVec.getLsbD i <;> rfl
theorem bw3 (t : Int32) : t &&& ((0 : Int32) ^^^ -1) = t := by
  apply Int32.toBitVec_inj.mp
  simp only [Int32.toBitVec_and, Int32.toBitVec_xor]
  apply BitVec.eq_of_getLsbD_eq
  intro i hi
  simp only [BitVec.getLsbD_and, BitVec.getLsbD_xor, m1bit hi]
  cases t.toBitVec.getLsbD i <;> simp
theorem bw4 {t e : Int32} (h : t &&& e = t) (s : Int32) : t &&& (s ^^^ -1) &&& e = t &&& (s ^^^ -1) := by
  have h2 : t &&& (s ^^^ -1) &&& e = (t &&& e) &&& (s ^^^ -1) := by
    apply Int32.toBitVec_inj.mp
    simp only [Int32.toBitVec_and, Int32.toBitVec_xor]
    apply BitVec.eq_of_getLsbD_eq
    intro i hi
    simp only [BitVec.getLsbD_and, BitVec.getLsbD_xor]
    cases t.toBitVec.getLsbD i <;> cases s.toBitVec.getLsbD i <;> cases e.toBitVec.getLsbD i <;> simp
  rw [h2, h]
/-- everybody -/
def evb (P : Nat) : Int32 := bitI (nI P) - 1
theorem evb_and : ∀ P, P ≤ 5 → ∀ t, t < 2 ^ P → nI t &&& evb P = nI t := by decide
def lvS (e : Int32) (V : SV) (k : Nat) (a : Int32) : Int32 := a &&& (if hoP V k then bitI (V 2 k) ^^^ -1 else e)
theorem lv_su {f e : Int32} {V W : SV} (hW : ∀ k, k < 12 → (hoP W k ↔ ¬ V 3 k ≤ 0 ∧ ¬ wbf (V 3 k) (V 4 k) f ≤ 0 ∧ inT (V 0 4) (V 1 k)) ∧ W 2 k = V 2 k) (he : V 0 4 &&& e = V 0 4) : ∀ n, n ≤ 12 → foldN (lvS e W) n (V 0 4) = V 0 4 &&& (foldN (suS f V) n 0 ^^^ -1)
  | 0, _ => by rw [foldN_0, foldN_0, bw3]
  | n + 1, hn => by
    rw [foldN_s, foldN_s, lv_su hW he n (by omega)]
    unfold lvS suS
    obtain ⟨h1, h2⟩ := hW n (by omega)
    rw [h2]
    by_cases c : hoP W n
    · obtain ⟨c1, c2, c3⟩ := h1.mp c
      rw [if_pos c, if_neg c1, if_neg c2, if_pos c3, bw1]
    · rw [if_neg c, bw4 he]
      by_cases c1 : V 3 n ≤ 0
      · rw [if_pos c1]
      · rw [if_neg c1]
        by_cases c2 : wbf (V 3 n) (V 4 n) f ≤ 0
        · rw [if_pos c2]
        · rw [if_neg c2]
          by_cases c3 : inT (V 0 4) (V 1 n)
          · exact absurd (h1.mpr ⟨c1, c2, c3⟩) c
          · rw [if_neg c3]
/-- the first of the others in town -/
def heF (t p : Int32) : Nat → Nat → Int32
  | 0, _ => -1
  | k + 1, o => if inT t (nI o) ∧ ¬ nI o = p then nI o else heF t p k (o + 1)
theorem he_ok : ∀ P, P ≤ 5 → ∀ t, t < 2 ^ P → ∀ p, p < 5 → heF (nI t) (nI p) P 0 = if nI t &&& (bitI (nI p) ^^^ -1) = 0 then -1 else ntzI (nI t &&& (bitI (nI p) ^^^ -1)) := by decide
theorem ntz_rng : ∀ t, t < 32 → ¬ nI t = 0 → ∃ j, j ≤ 4 ∧ ntzI (nI t) = nI j := by decide
