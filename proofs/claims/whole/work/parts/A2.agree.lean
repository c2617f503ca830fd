/-! ===== weights that agree on a day: what is reckoned with them is the same ===== -/
/-- W and W' say the same on day D -/
def agr (P : Nat) (D : Int32) (W W' : SV → Int32 → Int32 → Int32) : Prop := ∀ V p q, V 0 6 = D → p < P → q < P → W V (nI p) (nI q) = W' V (nI p) (nI q)
theorem fst_cong {f g : Nat → Int32} : ∀ k o, (∀ i, o ≤ i → i < o + k → f i = g i) → fstF f k o = fstF g k o
  | 0, _, _ => rfl
  | k + 1, o, h => by
    show (if f o = -1 then fstF f k (o + 1) else f o) = if g o = -1 then fstF g k (o + 1) else g o
    rw [h o (Nat.le_refl _) (by omega), fst_cong k (o + 1) (fun i h1 h2 => h i (by omega) (by omega))]
theorem of_day (W : SV → Int32 → Int32 → Int32) (V : SV) (p q : Int32) : ofV W V p q 0 6 = V 0 6 := by
  unfold ofV offV
  rw [if_pos rfl, if_neg (by decide)]
theorem ls_agree {f : Int32} {W W' : SV → Int32 → Int32 → Int32} {P n : Nat} {w D : Int32} (hW : agr P D W W') : ∀ (m ps left : Nat) (row : Int32) (V : SV), ps + m = P → V 0 6 = D → lsR f W P n w m ps left row V = lsR f W' P n w m ps left row V
  | 0, _, _, _, _, _, _ => rfl
  | m + 1, ps, left, row, V, hp, hd => by
    have e : fstF (fun o => if o = ps ∨ noOf V (nI o) then -1 else lsR f W P n w m (ps + 1) (left - 1) (row * 10 + nI o) (ofV W V (nI ps) (nI o))) P 0 = fstF (fun o => if o = ps ∨ noOf V (nI o) then -1 else lsR f W' P n w m (ps + 1) (left - 1) (row * 10 + nI o) (ofV W' V (nI ps) (nI o))) P 0 := fst_cong P 0 (fun o _ ho => by
      have eo : ofV W V (nI ps) (nI o) = ofV W' V (nI ps) (nI o) := by
        unfold ofV
        rw [hW V ps o hd (by omega) (by omega)]
      show (if o = ps ∨ noOf V (nI o) then -1 else lsR f W P n w m (ps + 1) (left - 1) (row * 10 + nI o) (ofV W V (nI ps) (nI o))) = if o = ps ∨ noOf V (nI o) then -1 else lsR f W' P n w m (ps + 1) (left - 1) (row * 10 + nI o) (ofV W' V (nI ps) (nI o))
      rw [eo, ls_agree hW m (ps + 1) (left - 1) _ _ (by omega) (by rw [of_day]; exact hd)])
    show (if m + 1 < left then -1 else
    if (if left = 0 then -1 else fstF (fun o => if o = ps ∨ noOf V (nI o) then -1 else lsR f W P n w m (ps + 1) (left - 1) (row * 10 + nI o) (ofV W V (nI ps) (nI o))) P 0) = -1 then lsR f W P n w m (ps + 1) left (row * 10 + 9) V
    else (if left = 0 then -1 else fstF (fun o => if o = ps ∨ noOf V (nI o) then -1 else lsR f W P n w m (ps + 1) (left - 1) (row * 10 + nI o) (ofV W V (nI ps) (nI o))) P 0)) = (if m + 1 < left then -1 else
    if (if left = 0 then -1 else fstF (fun o => if o = ps ∨ noOf V (nI o) then -1 else lsR f W' P n w m (ps + 1) (left - 1) (row * 10 + nI o) (ofV W' V (nI ps) (nI o))) P 0) = -1 then lsR f W' P n w m (ps + 1) left (row * 10 + 9) V
    else (if left = 0 then -1 else fstF (fun o => if o = ps ∨ noOf V (nI o) then -1 else lsR f W' P n w m (ps + 1) (left - 1) (row * 10 + nI o) (ofV W' V (nI ps) (nI o))) P 0))
    rw [e, ls_agree hW m (ps + 1) left _ V (by omega) hd]
theorem ch_agree {W W' : SV → Int32 → Int32 → Int32} {P : Nat} {D : Int32} (hW : agr P D W W') {V : SV} (hd : V 0 6 = D) {p q : Nat} (hp : p < P) (hq : q < P) (c : Int32) : chW W V (nI p) (nI q) c = chW W' V (nI p) (nI q) c ∧ chW W V (nI p) (nI q) c 0 6 = D := by
  have e : ofV W V (nI p) (nI q) = ofV W' V (nI p) (nI q) := by
    unfold ofV
    rw [hW V p q hd hp hq]
  unfold chW
  rw [e]
  refine ⟨rfl, ?_⟩
  by_cases c1 : c = 1
  · rw [if_pos c1]
    by_cases c2 : noOf V (nI q)
    · rw [if_pos c2]; exact hd
    · rw [if_neg c2, of_day]; exact hd
  · rw [if_neg c1]
    by_cases c2 : c = 2
    · rw [if_pos c2]
      show upr V 3 _ 0 6 = D
      rw [upr_ne (by decide)]
      exact hd
    · rw [if_neg c2]; exact hd
theorem gm_agree {W W' : SV → Int32 → Int32 → Int32} {P : Nat} {D : Int32} (hW : agr P D W W') {V : SV} (hd : V 0 6 = D) {p q : Nat} (hp : p < P) (hq : q < P) (x y : Int32) : gmW W V (nI p) (nI q) x y = gmW W' V (nI p) (nI q) x y := by
  unfold gmW
  obtain ⟨e1, e2⟩ := ch_agree hW hd hp hq x
  rw [← e1]
  exact (ch_agree hW e2 hq hp y).1
theorem gs_agree {W W' : SV → Int32 → Int32 → Int32} {P : Nat} {D : Int32} (hW : agr P D W W') {V : SV} (hd : V 0 6 = D) {p q : Nat} (hp : p < P) (hq : q < P) (f x y : Int32) : g1W W f V (nI p) (nI q) x y = g1W W' f V (nI p) (nI q) x y ∧ g2W W f V (nI p) (nI q) x y = g2W W' f V (nI p) (nI q) x y := by
  unfold g1W g2W gsW
  rw [gm_agree hW hd hp hq]
  exact ⟨rfl, rfl⟩
theorem d1_agree {W W' : SV → Int32 → Int32 → Int32} {P : Nat} {D : Int32} (hW : agr P D W W') {V : SV} (hd : V 0 6 = D) (hP1 : 1 ≤ P) (hP5 : P ≤ 5) (x : Int64) : d1R P W x V = d1R P W' x V := by
  obtain ⟨m1, h1, e1⟩ := drw_eq (nxX x) (j := P) (by omega) (by omega)
  obtain ⟨m2, h2, e2⟩ := drw_eq (nxX (nxX x)) (j := P) (by omega) (by omega)
  unfold d1R
  rw [e1, e2]
  unfold ofV
  rw [hW V m1 m2 hd h1 h2]
