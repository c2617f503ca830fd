/-! ===== what is reckoned from a State asks for no more than a State has ===== -/
theorem in04 : inSt 0 4 := Or.inl ⟨rfl, Or.inl rfl⟩
theorem in05 : inSt 0 5 := Or.inl ⟨rfl, Or.inr (Or.inl rfl)⟩
theorem in06 : inSt 0 6 := Or.inl ⟨rfl, Or.inr (Or.inr rfl)⟩
theorem eqS_st {f p : Int32} : ∀ (n i : Nat) {V W : SV}, eqS V W → (stV f p n i V).1 = (stV f p n i W).1
  | 0, _, _, _, _ => rfl
  | n + 1, i, V, W, h => by
    unfold stV
    rw [eqS_sun h 0 4 in04]
    split
    · exact eqS_st n (i + 1) (eqS_sun h)
    · rfl
theorem eqS_as {f w : Int32} : ∀ (n : Nat) {V W : SV}, eqS V W → (asV f w n V).1 = (asV f w n W).1
  | 0, _, _, _ => rfl
  | n + 1, V, W, h => by
    unfold asV
    rw [eqS_sun h 0 4 in04, eqS_sunR h]
    split
    · split
      · rfl
      · exact eqS_as n (eqS_sun h)
    · rfl
theorem eqS_no {V W : SV} (h : eqS V W) (q : Int32) : noOf V q ↔ noOf W q := by
  unfold noOf
  rw [eqS_low h, h 0 4 in04]
theorem eqS_ch {I : IM} {V W : SV} (h : eqS V W) (p q c : Int32) : eqS (chV I V p q c) (chV I W p q c) := by
  unfold chV
  rw [eqS_low h, eqS_wgt h, h 0 4 in04]
  split
  · split
    · exact h
    · exact eqS_off h _ _ _ _
  · split
    · exact eqS_fg h _ _
    · exact h
theorem eqS_itr {f : Int32} : ∀ (n : Nat) {V W : SV}, eqS V W → eqS (itr f n V) (itr f n W)
  | 0, _, _, h => h
  | n + 1, _, _, h => eqS_sun (eqS_itr n h)
theorem fstF_congr {f g : Nat → Int32} (h : ∀ o, f o = g o) : ∀ k o, fstF f k o = fstF g k o
  | 0, _ => rfl
  | k + 1, o => by
    unfold fstF
    rw [h o, fstF_congr h k (o + 1)]
theorem eqS_of {I : IM} {V W : SV} (h : eqS V W) (p q : Int32) : eqS (ofV (wgt I) V p q) (ofV (wgt I) W p q) := by
  unfold ofV
  rw [eqS_low h, eqS_wgt h]
  exact eqS_off h _ _ _ _
theorem eqS_ls {I : IM} {f : Int32} {P n : Nat} {w : Int32} : ∀ (m ps left : Nat) (row : Int32) {V W : SV}, eqS V W → lsR f (wgt I) P n w m ps left row V = lsR f (wgt I) P n w m ps left row W
  | 0, _, left, row, V, W, h => by
    unfold lsR
    rw [h 0 4 in04, eqS_as n h]
  | m + 1, ps, left, row, V, W, h => by
    unfold lsR
    rw [eqS_ls m (ps + 1) left _ h, fstF_congr (g := fun o => if o = ps ∨ noOf W (nI o) then -1 else lsR f (wgt I) P n w m (ps + 1) (left - 1) (row * 10 + nI o) (ofV (wgt I) W (nI ps) (nI o))) (fun o => by
      rw [eqS_ls m (ps + 1) (left - 1) (row * 10 + nI o) (eqS_of h (nI ps) (nI o))]
      by_cases c : o = ps ∨ noOf W (nI o)
      · rw [if_pos c, if_pos (c.imp_right (eqS_no h _).mpr)]
      · rw [if_neg c, if_neg (fun z => c (z.imp_right (eqS_no h _).mp))])]
theorem eqS_gm {I : IM} {V W : SV} (h : eqS V W) (p q x y : Int32) : eqS (gmV I V p q x y) (gmV I W p q x y) := eqS_ch (eqS_ch h p q x) q p y
