/-! ===== the least offences: first found, and found by going through all ===== -/
abbrev BT : Type := Option (Nat × Int32)
def lstF (h : Nat → Int32) : Nat → Nat → BT
  | 0, _ => none
  | k + 1, j => if h j = -1 then lstF h k (j + 1) else some (j, h j)
theorem lstF_s (h : Nat → Int32) (k j : Nat) : lstF h (k + 1) j = if h j = -1 then lstF h k (j + 1) else some (j, h j) := rfl
def shB (a : Nat) : BT → BT
  | none => none
  | some x => some (a + x.1, x.2)
def cmb (b c : BT) : BT := match b, c with
  | b, none => b
  | none, some c => some c
  | some b, some c => if c.1 < b.1 then some c else some b
theorem cmb_n (b : BT) : cmb b none = b := by cases b <;> rfl
theorem cmb_0 (c : Nat × Int32) : cmb none (some c) = some c := rfl
theorem cmb_s (b c : Nat × Int32) : cmb (some b) (some c) = if c.1 < b.1 then some c else some b := rfl
theorem lstF_le {h : Nat → Int32} : ∀ {k j : Nat} {x : Nat × Int32}, lstF h k j = some x → j ≤ x.1 ∧ x.1 < j + k ∧ x.2 = h x.1 ∧ ¬ x.2 = -1
  | 0, _, _, h1 => by cases h1
  | k + 1, j, x, h1 => by
    rw [lstF_s] at h1
    by_cases c : h j = -1
    · rw [if_pos c] at h1
      have := lstF_le h1
      exact ⟨by omega, by omega, this.2.2⟩
    · rw [if_neg c] at h1
      cases h1
      exact ⟨Nat.le_refl _, by omega, rfl, c⟩
theorem cmb_le (b : BT) (c : Nat × Int32) : ∃ y, cmb b (some c) = some y ∧ y.1 ≤ c.1 := by
  cases b with
  | none => exact ⟨c, rfl, Nat.le_refl _⟩
  | some b =>
    rw [cmb_s]
    by_cases h : c.1 < b.1
    · exact ⟨c, if_pos h, Nat.le_refl _⟩
    · exact ⟨b, if_neg h, by omega⟩
theorem cmb_no {y : Nat × Int32} {z : BT} (h : ∀ x, z = some x → y.1 ≤ x.1) : cmb (some y) z = some y := by
  cases z with
  | none => rfl
  | some x =>
    rw [cmb_s, if_neg]
    have := h x rfl
    omega
/-- one, and where it has nothing the other -/
def orF (h h' : Nat → Int32) (j : Nat) : Int32 := if h j = -1 then h' j else h j
theorem cmb_or (a : Nat) (h h' : Nat → Int32) : ∀ (k j : Nat) (b : BT), cmb (cmb b (shB a (lstF h k j))) (shB a (lstF h' k j)) = cmb b (shB a (lstF (orF h h') k j))
  | 0, _, b => by
    show cmb (cmb b none) none = cmb b none
    rw [cmb_n, cmb_n]
  | k + 1, j, b => by
    rw [lstF_s h, lstF_s h', lstF_s (orF h h')]
    unfold orF
    by_cases c : h j = -1
    · rw [if_pos c]
      by_cases c2 : h' j = -1
      · rw [if_pos c2, if_pos (show (if h j = -1 then h' j else h j) = -1 by rw [if_pos c]; exact c2)]
        exact cmb_or a h h' k (j + 1) b
      · have e : (if h j = -1 then h' j else h j) = h' j := if_pos c
        rw [if_neg c2, e, if_neg c2]
        show cmb (cmb b (shB a (lstF h k (j + 1)))) (some (a + j, h' j)) = cmb b (some (a + j, h' j))
        cases hx : lstF h k (j + 1) with
        | none => rw [show shB a none = none from rfl, cmb_n]
        | some x =>
          have hl := (lstF_le hx).1
          show cmb (cmb b (some (a + x.1, x.2))) (some (a + j, h' j)) = _
          cases b with
          | none =>
            rw [cmb_0, cmb_0, cmb_s, if_pos]
            show a + j < a + x.1
            omega
          | some b =>
            rw [cmb_s, cmb_s]
            by_cases c3 : a + x.1 < b.1
            · rw [if_pos (show (a + x.1, x.2).1 < b.1 from c3), cmb_s, if_pos (show a + j < a + x.1 by omega), if_pos (show a + j < b.1 by omega)]
            · rw [if_neg (show ¬ (a + x.1, x.2).1 < b.1 from c3), cmb_s]
    · have e : (if h j = -1 then h' j else h j) = h j := if_neg c
      rw [if_neg c, e, if_neg c]
      show cmb (cmb b (some (a + j, h j))) (shB a (if h' j = -1 then lstF h' k (j + 1) else some (j, h' j))) = cmb b (some (a + j, h j))
      obtain ⟨y, ey, hy⟩ := cmb_le b (a + j, h j)
      rw [ey]
      refine cmb_no (fun x hx => ?_)
      rw [← lstF_s] at hx
      cases hz : lstF h' (k + 1) j with
      | none => rw [hz] at hx; cases hx
      | some z =>
        rw [hz] at hx
        cases hx
        have := (lstF_le hz).1
        show y.1 ≤ a + z.1
        have hy : y.1 ≤ a + j := hy
        omega
/-- one more offence in each -/
def sucF (h : Nat → Int32) (j : Nat) : Int32 := if j = 0 then -1 else h (j - 1)
theorem lst_suc (a : Nat) (h : Nat → Int32) : ∀ (k j : Nat), shB (a + 1) (lstF h k j) = shB a (lstF (sucF h) k (j + 1))
  | 0, _ => rfl
  | k + 1, j => by
    rw [lstF_s, lstF_s]
    have e : sucF h (j + 1) = h j := by
      unfold sucF
      rw [if_neg (by omega), Nat.add_sub_cancel]
    rw [e]
    by_cases c : h j = -1
    · rw [if_pos c, if_pos c]
      exact lst_suc a h k (j + 1)
    · rw [if_neg c, if_neg c]
      show some (a + 1 + j, h j) = some (a + (j + 1), h j)
      rw [show a + 1 + j = a + (j + 1) by omega]
theorem lst_suc0 (a : Nat) (h : Nat → Int32) (k : Nat) : shB (a + 1) (lstF h k 0) = shB a (lstF (sucF h) (k + 1) 0) := by
  rw [lst_suc, lstF_s, if_pos (show sucF h 0 = -1 from rfl)]
theorem lst_more {h : Nat → Int32} : ∀ {k j : Nat}, h (j + k) = -1 → lstF h (k + 1) j = lstF h k j
  | 0, j, e => by
    have e : h j = -1 := e
    rw [lstF_s, if_pos e]
    rfl
  | k + 1, j, e => by
    rw [lstF_s h (k + 1) j, lstF_s h k j]
    rw [lst_more (h := h) (k := k) (j := j + 1) (by rw [show j + 1 + k = j + (k + 1) by omega]; exact e)]
theorem lst_congr {h g : Nat → Int32} : ∀ {k j : Nat}, (∀ i, j ≤ i → i < j + k → h i = g i) → lstF h k j = lstF g k j
  | 0, _, _ => rfl
  | k + 1, j, e => by
    rw [lstF_s, lstF_s, e j (Nat.le_refl _) (by omega), lst_congr (fun i h1 h2 => e i (by omega) (by omega))]
/-- from the o-th on, k of them: what is found by trying each -/
def tryB (c : Nat → Nat → Int32) (a N : Nat) : Nat → Nat → BT → BT
  | 0, _, b => b
  | k + 1, o, b => tryB c a N k (o + 1) (cmb b (shB a (lstF (c o) N 0)))
theorem try_all (c : Nat → Nat → Int32) (nb : Nat → Int32) (a N : Nat) : ∀ (k o : Nat) (b : BT), cmb (tryB c a N k o b) (shB a (lstF nb N 0)) = cmb b (shB a (lstF (fun j => if fstF (fun o => c o j) k o = -1 then nb j else fstF (fun o => c o j) k o) N 0))
  | 0, o, b => by
    show cmb b _ = cmb b _
    rfl
  | k + 1, o, b => by
    show cmb (tryB c a N k (o + 1) (cmb b (shB a (lstF (c o) N 0)))) _ = _
    rw [try_all c nb a N k (o + 1), cmb_or]
    congr 2
    refine lst_congr (fun j _ _ => ?_)
    unfold orF
    show (if c o j = -1 then (if fstF (fun o => c o j) k (o + 1) = -1 then nb j else fstF (fun o => c o j) k (o + 1)) else c o j) = (if (if c o j = -1 then fstF (fun o => c o j) k (o + 1) else c o j) = -1 then nb j else (if c o j = -1 then fstF (fun o => c o j) k (o + 1) else c o j))
    by_cases e : c o j = -1
    · rw [if_pos e, if_pos e]
    · rw [if_neg e, if_neg e, if_neg e]
def outB (w : Int32) (b : BT) : Int32 := match b with
  | none => -1
  | some x => if w = 0 then x.2 else nI x.1
theorem fw_lst (g : Nat → Int32) (w : Int32) : ∀ (k o : Nat), fwF g w k o = outB w (lstF g k o)
  | 0, _ => rfl
  | k + 1, o => by
    rw [lstF_s]
    unfold fwF
    by_cases e : g o = -1
    · rw [if_pos e, if_pos e]
      exact fw_lst g w k (o + 1)
    · rw [if_neg e, if_neg e]
      rfl
/-- too few are left to offend so often -/
theorem ls_more {f : Int32} {W : SV → Int32 → Int32 → Int32} {P n : Nat} {w : Int32} : ∀ {m ps left : Nat} {row : Int32} {V : SV}, m < left → lsR f W P n w m ps left row V = -1
  | 0, _, _, _, _, h => if_pos h
  | _ + 1, _, _, _, _, h => if_pos h
/-- which children there are -/
def chB (f : Int32) (W : SV → Int32 → Int32 → Int32) (P n : Nat) (w : Int32) (m ps : Nat) (row : Int32) (V : SV) (o i : Nat) : Int32 := if o = ps ∨ noOf V (nI o) then -1 else lsR f W P n w m (ps + 1) i (row * 10 + nI o) (ofV W V (nI ps) (nI o))
theorem ls_node (f : Int32) (W : SV → Int32 → Int32 → Int32) (P n : Nat) (w : Int32) (m ps : Nat) (row : Int32) (V : SV) (a : Nat) (b : BT) :
    cmb (tryB (fun o => sucF (chB f W P n w m ps row V o)) a (m + 2) P 0 b) (shB a (lstF (fun j => lsR f W P n w m (ps + 1) j (row * 10 + 9) V) (m + 1) 0)) = cmb b (shB a (lstF (fun j => lsR f W P n w (m + 1) ps j row V) (m + 2) 0)) := by
  have e0 : lstF (fun j => lsR f W P n w m (ps + 1) j (row * 10 + 9) V) (m + 2) 0 = lstF (fun j => lsR f W P n w m (ps + 1) j (row * 10 + 9) V) (m + 1) 0 := lst_more (ls_more (by omega))
  rw [← e0, try_all]
  congr 2
  refine lst_congr (fun j _ hj => ?_)
  have hj2 : ¬ m + 1 < j := by omega
  show _ = (if m + 1 < j then _ else _)
  rw [if_neg hj2]
  have e1 : fstF (fun o => sucF (chB f W P n w m ps row V o) j) P 0 = if j = 0 then -1 else fstF (fun o => if o = ps ∨ noOf V (nI o) then -1 else lsR f W P n w m (ps + 1) (j - 1) (row * 10 + nI o) (ofV W V (nI ps) (nI o))) P 0 := by
    by_cases c : j = 0
    · rw [if_pos c]
      have : ∀ k o, fstF (fun o => sucF (chB f W P n w m ps row V o) j) k o = -1 := by
        intro k
        induction k with
        | zero => intro o; rfl
        | succ k ih =>
          intro o
          unfold fstF
          rw [if_pos (show sucF (chB f W P n w m ps row V o) j = -1 from if_pos c)]
          exact ih (o + 1)
      exact this P 0
    · rw [if_neg c]
      exact fstF_congr (fun o => by unfold sucF; rw [if_neg c]; rfl) P 0
  rw [e1]
