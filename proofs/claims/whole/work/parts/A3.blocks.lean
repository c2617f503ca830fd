/-! ===== class and reference: states, logs, acts, images side by side ===== -/
def bv (f : Nat → Int32) : SV := fun r k => match r with
  | 0 => f (k + 44)
  | r + 1 => f (4 * k + r)
theorem rv_bv (I : IM) : rv I = bv (I 328) := by
  funext r k
  cases r <;> rfl
theorem bv_congr {f g : Nat → Int32} (h : ∀ k, k < 51 → f k = g k) : eqS (bv f) (bv g) := fun r k hk => by
  rcases hk with ⟨rfl, hk⟩ | ⟨h1, h4, hk⟩
  · exact h (k + 44) (by omega)
  · cases r with
    | zero => omega
    | succ r => exact h (4 * k + r) (by omega)
def lgI (C : IM) (i : Nat) : Nat → Nat → Int32 := fun w j => C (i + 1 + w) j
/-- as a State may be; with nobody told there is nothing heavy -/
def SVz (P : Nat) (V : SV) : Prop := SVok P V ∧ (P = 0 → ∀ k, k < 12 → V 3 k = 0)
theorem SVz.congr {P : Nat} {V W : SV} (h : eqS V W) (hV : SVz P V) : SVz P W := ⟨hV.1.congr h, fun z k hk => by rw [← eqS_row h (by decide) (by decide) hk]; exact hV.2 z k hk⟩
theorem SVok.z {P : Nat} {V : SV} (h : SVok P V) (hP : 1 ≤ P) : SVz P V := ⟨h, fun z => by omega⟩
/-- a State with its log, and a block of the reference's: on day D, with P persons -/
def BLK (st : SV) (lg : Nat → Nat → Int32) (f : Nat → Int32) (D P : Nat) : Prop := eqS (bv f) st ∧ SVz P st ∧ st 0 6 = nI D ∧ D ≤ 999 ∧ f 51 = nI (min 60 D) ∧ ∀ j w, j < min 60 D → w < 3 → f (52 + 3 * j + w) = lg w ((D - min 60 D + j) % 100)
theorem BLK.to {st st' : SV} {lg lg' : Nat → Nat → Int32} {f f' : Nat → Int32} {D P : Nat} (h : BLK st lg f D P) (h1 : eqS st' st) (h2 : ∀ k, k < 232 → f' k = f k) (h3 : ∀ j w, j < min 60 D → w < 3 → lg' w ((D - min 60 D + j) % 100) = lg w ((D - min 60 D + j) % 100)) : BLK st' lg' f' D P := by
  obtain ⟨a1, a2, a3, a4, a5, a6⟩ := h
  refine ⟨((bv_congr (fun k hk => h2 k (by omega))).trans a1).trans h1.symm, a2.congr h1.symm, by rw [h1 0 6 in06]; exact a3, a4, by rw [h2 51 (by decide)]; exact a5, fun j w hj hw => ?_⟩
  rw [h2 _ (by omega), h3 j w hj hw]
  exact a6 j w hj hw
def JB (C R : IM) (P A ptr : Nat) (dm : Nat → Nat) : Prop :=
  (A ≤ 40 ∧ ptr < 40 ∧ C 45 1 = nI ptr ∧ C 45 2 = nI A ∧ R 311 32 = nI A) ∧
  BLK (getS C 36) (lgI C 41) (R 328) (dm A) P ∧
  (∀ m, m < A → BLK (getS C (47 + 5 * ((ptr + 40 - A + m) % 40))) (lgI C 41) (fun k => R 330 (232 * m + k)) (dm m) P) ∧
  (∀ m, m < A → dm m ≤ dm (m + 1) ∧ dm (m + 1) ≤ dm m + 1) ∧
  (C 0 15 = 0 ∨ C 0 15 = 1) ∧ R 311 44 = C 0 15 ∧
  (C 0 15 = 1 → ∃ D, BLK (getS C 247) (lgI C 252) (R 337) D P)
def rdB (b k : Nat) : Prop := b = 0 ∧ k = 15 ∨ 36 ≤ b ∧ b ≤ 44 ∨ b = 45 ∧ (k = 1 ∨ k = 2) ∨ 47 ≤ b ∧ b ≤ 255
def rdBr (b k : Nat) : Prop := b = 311 ∧ (k = 32 ∨ k = 44) ∨ b = 328 ∨ b = 330 ∨ b = 337
theorem JB.fr {C C' R R' : IM} {P A ptr : Nat} {dm : Nat → Nat} (h : JB C R P A ptr dm) (h1 : ∀ b k, rdB b k → C' b k = C b k) (h2 : ∀ b k, rdBr b k → R' b k = R b k) : JB C' R' P A ptr dm := by
  obtain ⟨⟨a1, a2, a3, a4, a5⟩, b, c, e, f1, f2, g⟩ := h
  have st : ∀ i, (i = 36 ∨ 47 ≤ i ∧ i ≤ 247) → eqS (getS C' i) (getS C i) := fun i hi r k hk => by
    unfold inSt at hk
    exact h1 (i + r) k (by unfold rdB; omega)
  have lg : ∀ i w x, (i = 41 ∨ i = 252) → w < 3 → lgI C' i w x = lgI C i w x := fun i w x hi hw => h1 _ _ (by unfold rdB; omega)
  have e15 : C' 0 15 = C 0 15 := h1 0 15 (by unfold rdB; omega)
  refine ⟨⟨a1, a2, by rw [h1 45 1 (by unfold rdB; omega)]; exact a3, by rw [h1 45 2 (by unfold rdB; omega)]; exact a4, by rw [h2 311 32 (by unfold rdBr; omega)]; exact a5⟩, b.to (st 36 (by omega)) (fun k _ => h2 328 k (by unfold rdBr; omega)) (fun j w _ hw => lg 41 w _ (by omega) hw), fun m hm => (c m hm).to (st _ (by omega)) (fun k _ => h2 330 _ (by unfold rdBr; omega)) (fun j w _ hw => lg 41 w _ (by omega) hw), e, by rw [e15]; exact f1, by rw [e15, h2 311 44 (by unfold rdBr; omega)]; exact f2, fun z => ?_⟩
  obtain ⟨D, hD⟩ := g (by rw [← e15]; exact z)
  exact ⟨D, hD.to (st 247 (by omega)) (fun k _ => h2 337 k (by unfold rdBr; omega)) (fun j w _ hw => lg 252 w _ (by omega) hw)⟩
theorem JB.chain {C R : IM} {P A ptr : Nat} {dm : Nat → Nat} (h : JB C R P A ptr dm) : ∀ i m, m + i ≤ A → dm m ≤ dm (m + i) ∧ dm (m + i) ≤ dm m + i
  | 0, m, _ => ⟨Nat.le_refl _, Nat.le_refl _⟩
  | i + 1, m, hm => by
    have h1 := JB.chain h i m (by omega)
    have h2 := h.2.2.2.1 (m + i) (by omega)
    rw [← Nat.add_assoc m i 1]
    omega
theorem kpR_blk {R : IM} {A : Nat} (hA : A ≤ 40) {m k : Nat} (hk : k < 232) : (m < min 40 (A + 1) - 1 → kpR R A 330 (232 * m + k) = R 330 (232 * (m + (A + 1 - min 40 (A + 1))) + k)) ∧ (m = min 40 (A + 1) - 1 → kpR R A 330 (232 * m + k) = R 328 k) := by
  unfold kpR
  by_cases e : A = 40
  · subst e
    rw [if_pos rfl, up2_ne (by decide)]
    refine ⟨fun hm => ?_, fun hm => ?_⟩
    · have hm : m < 39 := hm
      unfold cpR
      rw [if_neg (by omega), up2_ne (by decide)]
      unfold shR
      rw [if_pos (by omega)]
      congr 1
      show 232 * m + k + 232 = 232 * (m + 1) + k
      omega
    · have hm : m = 39 := hm
      subst hm
      unfold cpR
      rw [if_pos (by omega), up2_ne (by decide), shR_ne (by decide), Nat.add_sub_cancel_left]
  · rw [if_neg e, up2_ne (by decide)]
    have e1 : min 40 (A + 1) = A + 1 := by omega
    rw [e1]
    refine ⟨fun hm => ?_, fun hm => ?_⟩
    · unfold cpR
      rw [if_neg (by omega)]
      congr 1
      omega
    · have hm : m = A := hm
      subst hm
      unfold cpR
      rw [if_pos (by omega)]
      congr 1
      omega
theorem min40 (A : Nat) (hA : A ≤ 40) : minI 40 (nI A + 1) = nI (min 40 (A + 1)) := by
  have : ∀ A, A ≤ 40 → minI 40 (nI A + 1) = nI (min 40 (A + 1)) := by decide
  exact this A hA
theorem kp_blk {C : IM} {ptr : Nat} (hp : ptr < 40) (h : C 45 1 = nI ptr) : (∀ j, j < 40 → j ≠ ptr → eqS (getS (kp C) (47 + 5 * j)) (getS C (47 + 5 * j))) ∧ eqS (getS (kp C) (47 + 5 * ptr)) (getS C 36) ∧ kp C 45 1 = nI ((ptr + 1) % 40) ∧ kp C 45 2 = minI 40 (C 45 2 + 1) := by
  rw [kp_eq h hp]
  unfold kpI
  refine ⟨fun j hj hne r k hk => ?_, fun r k hk => ?_, ?_, up2_sa _ _ _ _⟩
  · have hr : r ≤ 4 := by unfold inSt at hk; omega
    show up2 (up2 (putS C (47 + 5 * ptr) (getS C 36)) 45 1 _) 45 2 _ (47 + 5 * j + r) k = C (47 + 5 * j + r) k
    rw [up2_ne (by omega), up2_ne (by omega), putS_far (by omega)]
  · show up2 (up2 (putS C (47 + 5 * ptr) (getS C 36)) 45 1 _) 45 2 _ (47 + 5 * ptr + r) k = C (36 + r) k
    rw [up2_ne (by omega), up2_ne (by omega), putS_in hk]
    rfl
  · rw [up2_nk (by decide), up2_sa]
theorem JB.keep {C R : IM} {P A ptr : Nat} {dm : Nat → Nat} (h : JB C R P A ptr dm) : ∃ A' ptr' dm', JB (kp C) (kR R) P A' ptr' dm' ∧ 1 ≤ A' ∧ dm' (A' - 1) = dm A ∧ dm' A' = dm A := by
  obtain ⟨⟨a1, a2, a3, a4, a5⟩, b, c, e, f1, f2, g⟩ := h
  have rg : rng (C 45 1) 39 := ⟨ptr, by omega, a3⟩
  have far : ∀ b, b < 45 ∨ 247 ≤ b → kp C b = C b := fun b hb => kp_far hb rg
  obtain ⟨k1, k2, k3, k4⟩ := kp_blk a2 a3
  have eA : kR R = kpR R A := by
    unfold kR
    rw [a5, nI_clamp (by omega)]
  have far36 : eqS (getS (kp C) 36) (getS C 36) := fun r k hk => by
    unfold inSt at hk
    show kp C (36 + r) k = C (36 + r) k
    rw [far _ (by omega)]
  have far247 : eqS (getS (kp C) 247) (getS C 247) := fun r k hk => by
    show kp C (247 + r) k = C (247 + r) k
    rw [far _ (by omega)]
  have lg : ∀ i w x, (i = 41 ∨ i = 252) → w < 3 → lgI (kp C) i w x = lgI C i w x := fun i w x hi hw => by
    show kp C (i + 1 + w) x = C (i + 1 + w) x
    rw [far _ (by omega)]
  refine ⟨min 40 (A + 1), (ptr + 1) % 40, fun m => dm (min (m + (A + 1 - min 40 (A + 1))) A), ⟨⟨by omega, by omega, k3, by rw [k4, a4]; exact min40 A a1, ?_⟩, ?_, ?_, ?_, ?_, ?_, ?_⟩, by omega, ?_, ?_⟩
  · rw [eA, kpR_32]
    congr 1
    split <;> omega
  · show BLK _ _ _ (dm (min (min 40 (A + 1) + (A + 1 - min 40 (A + 1))) A)) P
    rw [show min (min 40 (A + 1) + (A + 1 - min 40 (A + 1))) A = A by omega]
    refine b.to far36 (fun k _ => ?_) (fun j w _ hw => lg 41 w _ (by omega) hw)
    rw [kR_ne (by decide) (by decide)]
  · intro m hm
    by_cases hl : m < min 40 (A + 1) - 1
    · show BLK _ _ _ (dm (min (m + (A + 1 - min 40 (A + 1))) A)) P
      have hmA : m + (A + 1 - min 40 (A + 1)) < A := by omega
      rw [show min (m + (A + 1 - min 40 (A + 1))) A = m + (A + 1 - min 40 (A + 1)) by omega]
      refine (c _ hmA).to ?_ (fun k hk => ?_) (fun j w _ hw => lg 41 w _ (by omega) hw)
      · rw [show ((ptr + 1) % 40 + 40 - min 40 (A + 1) + m) % 40 = (ptr + 40 - A + (m + (A + 1 - min 40 (A + 1)))) % 40 by omega]
        exact k1 _ (by omega) (by omega)
      · rw [eA]
        exact (kpR_blk a1 hk).1 hl
    · have hm2 : m = min 40 (A + 1) - 1 := by omega
      show BLK _ _ _ (dm (min (m + (A + 1 - min 40 (A + 1))) A)) P
      rw [show min (m + (A + 1 - min 40 (A + 1))) A = A by omega]
      refine b.to ?_ (fun k hk => ?_) (fun j w _ hw => lg 41 w _ (by omega) hw)
      · rw [show ((ptr + 1) % 40 + 40 - min 40 (A + 1) + m) % 40 = ptr by omega]
        exact k2
      · rw [eA]
        exact (kpR_blk a1 hk).2 hm2
  · intro m hm
    show dm (min (m + (A + 1 - min 40 (A + 1))) A) ≤ dm (min (m + 1 + (A + 1 - min 40 (A + 1))) A) ∧ dm (min (m + 1 + (A + 1 - min 40 (A + 1))) A) ≤ dm (min (m + (A + 1 - min 40 (A + 1))) A) + 1
    by_cases hl : m < min 40 (A + 1) - 1
    · have hmA : m + (A + 1 - min 40 (A + 1)) < A := by omega
      rw [show min (m + (A + 1 - min 40 (A + 1))) A = m + (A + 1 - min 40 (A + 1)) by omega, show min (m + 1 + (A + 1 - min 40 (A + 1))) A = m + (A + 1 - min 40 (A + 1)) + 1 by omega]
      exact e _ hmA
    · rw [show min (m + (A + 1 - min 40 (A + 1))) A = A by omega, show min (m + 1 + (A + 1 - min 40 (A + 1))) A = A by omega]
      omega
  · rw [far 0 (by omega)]; exact f1
  · rw [far 0 (by omega), eA, kpR_311 (by decide)]; exact f2
  · intro z
    rw [far 0 (by omega)] at z
    obtain ⟨D, hD⟩ := g z
    exact ⟨D, hD.to far247 (fun k _ => by rw [kR_ne (by decide) (by decide)]) (fun j w _ hw => lg 252 w _ (by omega) hw)⟩
  · show dm (min (min 40 (A + 1) - 1 + (A + 1 - min 40 (A + 1))) A) = dm A
    rw [show min (min 40 (A + 1) - 1 + (A + 1 - min 40 (A + 1))) A = A by omega]
  · show dm (min (min 40 (A + 1) + (A + 1 - min 40 (A + 1))) A) = dm A
    rw [show min (min 40 (A + 1) + (A + 1 - min 40 (A + 1))) A = A by omega]
/-! a day -/
def sel3 (a b c : Int32) (w : Nat) : Int32 := if w = 0 then a else if w = 1 then b else c
theorem pdR_log {R : IM} {D : Nat} {a b c : Int32} {j w : Nat} (hj : j < min 60 (D + 1)) (hw : w < 3) : pdR R (min 60 D) a b c 328 (52 + 3 * j + w) = if j = min 60 (D + 1) - 1 then sel3 a b c w else R 328 (52 + 3 * (j + (min 60 D + 1 - min 60 (D + 1))) + w) := by
  unfold pdR
  by_cases e : min 60 D = 60
  · have e2 : min 60 (D + 1) = 60 := by omega
    rw [if_pos e, e2, e]
    rw [e2] at hj
    rw [up2_nk (by omega)]
    unfold wr3
    by_cases hl : j = 60 - 1
    · rw [if_pos hl]
      subst hl
      unfold sel3
      rcases (show w = 0 ∨ w = 1 ∨ w = 2 by omega) with rfl | rfl | rfl
      · rw [up2_nk (by omega), up2_nk (by omega), up2_sa]; rfl
      · rw [up2_nk (by omega), up2_sa]; rfl
      · rw [up2_sa]; rfl
    · rw [if_neg hl, up2_nk (by omega), up2_nk (by omega), up2_nk (by omega), up2_nk (by omega)]
      unfold slR
      rw [if_pos (by omega)]
      congr 1
      omega
  · have e1 : min 60 D = D := by omega
    have e2 : min 60 (D + 1) = D + 1 := by omega
    rw [if_neg e, e1, e2]
    rw [e2] at hj
    rw [up2_nk (by omega)]
    unfold wr3
    by_cases hl : j = D + 1 - 1
    · rw [if_pos hl]
      have hl : j = D := hl
      subst hl
      unfold sel3
      rcases (show w = 0 ∨ w = 1 ∨ w = 2 by omega) with rfl | rfl | rfl
      · rw [up2_nk (by omega), up2_nk (by omega), Nat.add_zero, up2_sa]; rfl
      · rw [up2_nk (by omega), up2_sa]; rfl
      · rw [up2_sa]; rfl
    · rw [if_neg hl, up2_nk (by omega), up2_nk (by omega), up2_nk (by omega)]
      congr 1
      omega
theorem pd_st {C : IM} {D : Nat} (h : C 36 6 = nI D) (hD : D < 2 ^ 30) : eqS (getS (pd C) 36) (l2V (sunF (C 15 2) (getS C 36))) := fun r k hk => by
  have e : pd C = pdI C D := by
    unfold pd
    rw [h, nI_clamp (by omega)]
  rw [e]
  unfold pdI l2V
  show up2 (up2 (wrL (putS C 36 (sunF (C 15 2) (getS C 36))) 41 (D % 100) _ _ _) 36 5 _) 36 6 _ (36 + r) k = _
  rcases hk with ⟨rfl, hk⟩ | ⟨h1, h4, hk⟩
  · rcases hk with rfl | rfl | rfl
    · rw [up2_nk (by decide), up2_nk (by decide), up2_nk (by decide), up2_nk (by decide)]
      unfold wrL
      rw [up2_ne (by decide), up2_ne (by decide), up2_ne (by decide)]
      exact putS_in (r := 0) in04
    · rw [up2_nk (by decide), up2_sa, up2_nk (by decide), up2_sa, sun_num _ _ (by decide)]
      rfl
    · rw [up2_sa, up2_sa, sun_num _ _ (by decide)]
      show nI (D + 1) = C 36 6 + 1
      rw [h, nI_1]
  · rw [up2_ne (by omega), up2_ne (by omega), up2_ne (by omega), up2_ne (by omega)]
    unfold wrL
    rw [up2_ne (by omega), up2_ne (by omega), up2_ne (by omega)]
    exact putS_in (Or.inr ⟨h1, h4, hk⟩)
theorem pd_lg {C : IM} {D : Nat} (h : C 36 6 = nI D) (hD : D < 2 ^ 30) {w x : Nat} (hw : w < 3) : lgI (pd C) 41 w x = if x = D % 100 then sel3 (C 36 4 &&& (sunF (C 15 2) (getS C 36) 0 4 ^^^ -1)) (bcI (hbF (sunF (C 15 2) (getS C 36) 3) (sunF (C 15 2) (getS C 36) 4) 0)) (sunF (C 15 2) (getS C 36) 0 4) w else lgI C 41 w x := by
  have e : pd C = pdI C D := by
    unfold pd
    rw [h, nI_clamp (by omega)]
  rw [e]
  unfold pdI
  show up2 (up2 (wrL (putS C 36 (sunF (C 15 2) (getS C 36))) 41 (D % 100) _ _ _) 36 5 _) 36 6 _ (41 + 1 + w) x = _
  rw [up2_ne (by omega), up2_ne (by omega)]
  unfold wrL sel3
  by_cases hx : x = D % 100
  · subst hx
    rw [if_pos rfl]
    rcases (show w = 0 ∨ w = 1 ∨ w = 2 by omega) with rfl | rfl | rfl
    · rw [up2_ne (by decide), up2_ne (by decide), up2_sa]; rfl
    · rw [up2_ne (by decide), up2_sa]; rfl
    · rw [up2_sa]; rfl
  · rw [if_neg hx, up2_o (by omega), up2_o (by omega), up2_o (by omega), putS_far (by omega)]
    rfl
theorem xx1 (s : Int32) : (s ^^^ -1) ^^^ -1 = s := by
  rw [Int32.xor_assoc]
  simp
theorem bw5 (t s : Int32) : t &&& ((t &&& s) ^^^ -1) = t &&& (s ^^^ -1) := by
  have := bw2 t (s ^^^ -1)
  rw [xx1] at this
  exact this
theorem JB.pass {C R : IM} {P A ptr : Nat} {dm : Nat → Nat} (h : JB C R P A ptr dm) (hA : 1 ≤ A) (hd : dm (A - 1) = dm A) (hD : dm A + 1 ≤ 999) (hP1 : 1 ≤ P) (hP5 : P ≤ 5) (hf : R 325 0 = C 15 2) (hfr : rng (C 15 2) 9) : JB (pd C) (pR R) P A ptr (fun m => if m = A then dm A + 1 else dm m) := by
  have hch := h.chain
  obtain ⟨⟨a1, a2, a3, a4, a5⟩, b, c, e, f1, f2, g⟩ := h
  obtain ⟨b1, b2, b3, b4, b5, b6⟩ := b
  have h6 : C 36 6 = nI (dm A) := b3
  have lo : ∀ x, x < 36 → pd C x = C x := fun x hx => pd_lo hx
  have hi : ∀ x, 45 ≤ x → pd C x = C x := fun x hx => pd_45 hx
  have stS : eqS (rv R) (getS C 36) := by rw [rv_bv]; exact b1
  refine ⟨⟨a1, a2, by rw [hi 45 (by omega)]; exact a3, by rw [hi 45 (by omega)]; exact a4, by rw [pR_ne (by decide)]; exact a5⟩, ?_, fun m hm => ?_, fun m hm => ?_, by rw [lo 0 (by omega)]; exact f1, by rw [lo 0 (by omega), pR_ne (by decide)]; exact f2, fun z => ?_⟩
  · show BLK _ _ _ (if A = A then dm A + 1 else dm A) P
    rw [if_pos rfl]
    have hst := pd_st h6 (by omega)
    have ok : SVz P (l2V (sunF (C 15 2) (getS C 36))) := (l2_ok (sun_ok hP5 b2.1 (f10 hfr))).z hP1
    refine ⟨?_, ok.congr hst.symm, ?_, hD, ?_, fun j w hj hw => ?_⟩
    · refine eqS.trans ?_ hst.symm
      rw [← rv_bv]
      unfold pR
      refine rv_rp.trans ?_
      rw [hf]
      exact l2_eq (eqS_sun stS)
    · rw [hst 0 6 in06]
      unfold l2V
      rw [up2_sa, sun_num _ _ (by decide)]
      show C 36 6 + 1 = _
      rw [h6, nI_1]
    · unfold pR
      rw [rp_hi (by decide), b5, nI_clamp (by omega), pdR_51]
      congr 1
      split <;> omega
    · unfold pR
      rw [rp_hi (by omega), b5, nI_clamp (by omega), pdR_log hj hw, pd_lg h6 (by omega) hw, hf]
      by_cases hl : j = min 60 (dm A + 1) - 1
      · rw [if_pos hl, if_pos (by omega)]
        have s1 : goF (C 15 2) (rv R) = C 36 4 &&& (sunF (C 15 2) (getS C 36) 0 4 ^^^ -1) := by
          rw [eqS_go stS, sun_04, show C 36 4 = getS C 36 0 4 from rfl, bw5]
          rfl
        have s2 : bcI (hbF (sunF (C 15 2) (rv R) 3) (sunF (C 15 2) (rv R) 4) 0) = bcI (hbF (sunF (C 15 2) (getS C 36) 3) (sunF (C 15 2) (getS C 36) 4) 0) := by
          rw [hb_congr (fun k hk => eqS_row (eqS_sun stS) (by decide) (by decide) hk) (fun k hk => eqS_row (eqS_sun stS) (by decide) (by decide) hk)]
        have s3 : sunF (C 15 2) (rv R) 0 4 = sunF (C 15 2) (getS C 36) 0 4 := eqS_sun stS 0 4 in04
        rw [s1, s2, s3]
      · rw [if_neg hl, if_neg (by omega), b6 _ w (by omega) hw]
        congr 2
        omega
  · have hmA : m ≠ A := by omega
    show BLK _ _ _ (if m = A then dm A + 1 else dm m) P
    rw [if_neg hmA]
    have hc1 := hch (A - 1 - m) m (by omega)
    rw [show m + (A - 1 - m) = A - 1 by omega, hd] at hc1
    refine (c m hm).to (fun r k hk => ?_) (fun k _ => by rw [pR_ne (by decide)]) (fun j w hj hw => ?_)
    · show pd C (_ + r) k = C (_ + r) k
      rw [hi _ (by omega)]
    · rw [pd_lg h6 (by omega) hw, if_neg (by omega)]
  · show (if m = A then dm A + 1 else dm m) ≤ (if m + 1 = A then dm A + 1 else dm (m + 1)) ∧ (if m + 1 = A then dm A + 1 else dm (m + 1)) ≤ (if m = A then dm A + 1 else dm m) + 1
    have hc := e m hm
    rw [if_neg (show ¬ m = A by omega)]
    by_cases hl : m + 1 = A
    · rw [if_pos hl]
      have : dm m = dm A := by rw [← hd, ← hl]; rfl
      omega
    · rw [if_neg hl]
      exact hc
  · rw [lo 0 (by omega)] at z
    obtain ⟨D, hD2⟩ := g z
    exact ⟨D, hD2.to (fun r k hk => by show pd C (247 + r) k = C (247 + r) k; rw [hi _ (by omega)]) (fun k _ => by rw [pR_ne (by decide)]) (fun j w _ hw => by show pd C (252 + 1 + w) _ = C (252 + 1 + w) _; rw [hi _ (by omega)])⟩
/- the State now set -/
theorem JB.set {C R : IM} {P A ptr : Nat} {dm : Nat → Nat} (h : JB C R P A ptr dm) {V V' : SV} (hP1 : 1 ≤ P) (hV : SVok P V) (h6 : V 0 6 = C 36 6) (e : eqS V' V) : JB (putS C 36 V) (rp R V') P A ptr dm := by
  obtain ⟨⟨a1, a2, a3, a4, a5⟩, b, c, e2, f1, f2, g⟩ := h
  obtain ⟨b1, b2, b3, b4, b5, b6⟩ := b
  have far : ∀ x, x < 36 ∨ 40 < x → putS C 36 V x = C x := fun x hx => putS_far (by omega)
  have fr : ∀ x, x ≠ 328 → rp R V' x = R x := fun x hx => rp_ne hx
  have st : eqS (getS (putS C 36 V) 36) V := getS_putS
  refine ⟨⟨a1, a2, by rw [far 45 (by omega)]; exact a3, by rw [far 45 (by omega)]; exact a4, by rw [fr 311 (by decide)]; exact a5⟩, ?_, fun m hm => ?_, e2, by rw [far 0 (by omega)]; exact f1, by rw [far 0 (by omega), fr 311 (by decide)]; exact f2, fun z => ?_⟩
  · refine ⟨?_, (hV.z hP1).congr st.symm, ?_, b4, by rw [rp_hi (by decide)]; exact b5, fun j w hj hw => ?_⟩
    · rw [← rv_bv]
      exact (rv_rp.trans e).trans st.symm
    · rw [st 0 6 in06, h6]
      exact b3
    · rw [rp_hi (by omega), b6 j w hj hw]
      show C (41 + 1 + w) _ = putS C 36 V (41 + 1 + w) _
      rw [far _ (by omega)]
  · exact (c m hm).to (fun r k hk => by show putS C 36 V (_ + r) k = C (_ + r) k; rw [far _ (by omega)]) (fun k _ => by rw [fr 330 (by decide)]) (fun j w _ hw => by show putS C 36 V (41 + 1 + w) _ = C (41 + 1 + w) _; rw [far _ (by omega)])
  · rw [far 0 (by omega)] at z
    obtain ⟨D, hD2⟩ := g z
    exact ⟨D, hD2.to (fun r k hk => by show putS C 36 V (247 + r) k = C (247 + r) k; rw [far _ (by omega)]) (fun k _ => by rw [fr 337 (by decide)]) (fun j w _ hw => by show putS C 36 V (252 + 1 + w) _ = C (252 + 1 + w) _; rw [far _ (by omega)])⟩
theorem JB.undo {C R : IM} {P A ptr : Nat} {dm : Nat → Nat} (h : JB C R P A ptr dm) (hA : 1 ≤ A) : JB (nUndo C) (udI (up2 R 311 32 (nI (A - 1))) (A - 1) 232) P (A - 1) ((ptr + 39) % 40) dm := by
  obtain ⟨⟨a1, a2, a3, a4, a5⟩, b, c, e2, f1, f2, g⟩ := h
  have eU : nUndo C = putS (up2 (up2 C 45 1 (nI ((ptr + 39) % 40))) 45 2 (C 45 2 - 1)) 36 (getS C (47 + 5 * ((ptr + 39) % 40))) := by
    unfold nUndo rsI
    rw [a3, nI_clamp (by omega)]
  rw [eU]
  generalize hX : up2 (up2 C 45 1 (nI ((ptr + 39) % 40))) 45 2 (C 45 2 - 1) = X
  have xo : ∀ x, x ≠ 45 → X x = C x := fun x hx => by rw [← hX, up2_ne hx, up2_ne hx]
  have far : ∀ x, x < 36 ∨ 40 < x → putS X 36 (getS C (47 + 5 * ((ptr + 39) % 40))) x = X x := fun x hx => putS_far (by omega)
  have rr : ∀ x, x ≠ 328 → x ≠ 311 → udI (up2 R 311 32 (nI (A - 1))) (A - 1) 232 x = R x := fun x h1 h2 => by rw [udI_ne h1, up2_ne h2]
  have rb : ∀ k, k < 232 → udI (up2 R 311 32 (nI (A - 1))) (A - 1) 232 328 k = R 330 (232 * (A - 1) + k) := fun k hk => by
    unfold udI
    rw [if_pos ⟨rfl, hk⟩, up2_ne (by decide)]
  refine ⟨⟨by omega, by omega, ?_, ?_, ?_⟩, ?_, fun m hm => ?_, fun m hm => e2 m (by omega), ?_, ?_, fun z => ?_⟩
  · rw [far 45 (by omega), ← hX, up2_nk (by decide), up2_sa]
  · rw [far 45 (by omega), ← hX, up2_sa, a4]
    obtain ⟨q, rfl⟩ : ∃ q, A = q + 1 := ⟨A - 1, by omega⟩
    exact nI_pred q
  · rw [udI_ne (by decide), up2_sa]
  · have hc := c (A - 1) (by omega)
    rw [show (ptr + 40 - A + (A - 1)) % 40 = (ptr + 39) % 40 by omega] at hc
    exact hc.to getS_putS rb (fun j w _ hw => by show putS X 36 _ (41 + 1 + w) _ = C (41 + 1 + w) _; rw [far _ (by omega), xo _ (by omega)])
  · rw [show ((ptr + 39) % 40 + 40 - (A - 1) + m) % 40 = (ptr + 40 - A + m) % 40 by omega]
    exact (c m (by omega)).to (fun r k hk => by show putS X 36 _ (_ + r) k = C (_ + r) k; rw [far _ (by omega), xo _ (by omega)]) (fun k _ => by rw [rr 330 (by decide) (by decide)]) (fun j w _ hw => by show putS X 36 _ (41 + 1 + w) _ = C (41 + 1 + w) _; rw [far _ (by omega), xo _ (by omega)])
  · rw [far 0 (by omega), xo 0 (by decide)]; exact f1
  · rw [far 0 (by omega), xo 0 (by decide), udI_ne (by decide), up2_nk (by decide)]; exact f2
  · rw [far 0 (by omega), xo 0 (by decide)] at z
    obtain ⟨D, hD2⟩ := g z
    exact ⟨D, hD2.to (fun r k hk => by show putS X 36 _ (247 + r) k = C (247 + r) k; rw [far _ (by omega), xo _ (by omega)]) (fun k _ => by rw [rr 337 (by decide) (by decide)]) (fun j w _ hw => by show putS X 36 _ (252 + 1 + w) _ = C (252 + 1 + w) _; rw [far _ (by omega), xo _ (by omega)])⟩
theorem JB.image {C R : IM} {P A ptr : Nat} {dm : Nat → Nat} (h : JB C R P A ptr dm) : JB (nImg C) (up2 (bkI R 337 328 232) 311 44 1) P A ptr dm := by
  obtain ⟨⟨a1, a2, a3, a4, a5⟩, b, c, e2, f1, f2, g⟩ := h
  have cx : ∀ x, x ≠ 0 → x < 247 → nImg C x = C x := fun x h1 h2 => by
    unfold nImg
    rw [up2_ne h1]
    funext k
    unfold cpL
    rw [if_neg (by omega), putS_far (by omega)]
  have c15 : nImg C 0 15 = 1 := up2_sa _ _ _ _
  have rx : ∀ x, x ≠ 337 → x ≠ 311 → up2 (bkI R 337 328 232) 311 44 1 x = R x := fun x h1 h2 => by rw [up2_ne h2, bkI_ne h1]
  refine ⟨⟨a1, a2, by rw [cx 45 (by decide) (by decide)]; exact a3, by rw [cx 45 (by decide) (by decide)]; exact a4, by rw [up2_nk (by decide), bkI_ne (by decide)]; exact a5⟩, ?_, fun m hm => ?_, e2, Or.inr c15, by rw [c15, up2_sa], fun _ => ⟨dm A, ?_⟩⟩
  · exact b.to (fun r k hk => by unfold inSt at hk; show nImg C (36 + r) k = C (36 + r) k; rw [cx _ (by omega) (by omega)]) (fun k _ => by rw [rx 328 (by decide) (by decide)]) (fun j w _ hw => by show nImg C (41 + 1 + w) _ = C (41 + 1 + w) _; rw [cx _ (by omega) (by omega)])
  · exact (c m hm).to (fun r k hk => by unfold inSt at hk; show nImg C (_ + r) k = C (_ + r) k; rw [cx _ (by omega) (by omega)]) (fun k _ => by rw [rx 330 (by decide) (by decide)]) (fun j w _ hw => by show nImg C (41 + 1 + w) _ = C (41 + 1 + w) _; rw [cx _ (by omega) (by omega)])
  · refine b.to (fun r k hk => ?_) (fun k hk => ?_) (fun j w hj hw => ?_)
    · have hr : r ≤ 4 := by unfold inSt at hk; omega
      show up2 (cpL (putS C 247 (getS C 36)) 252 41) 0 15 1 (247 + r) k = C (36 + r) k
      rw [up2_ne (by omega)]
      unfold cpL
      rw [if_neg (by omega), putS_in hk]
      rfl
    · rw [up2_ne (by decide)]
      unfold bkI
      rw [if_pos ⟨rfl, hk⟩]
    · show up2 (cpL (putS C 247 (getS C 36)) 252 41) 0 15 1 (252 + 1 + w) _ = C (41 + 1 + w) _
      rw [up2_ne (by omega)]
      unfold cpL
      rw [if_pos ⟨by omega, Nat.mod_lt _ (by decide)⟩, show 41 + (252 + 1 + w - 252) = 41 + 1 + w by omega, putS_far (by omega)]
theorem JB.back {C R : IM} {P A ptr : Nat} {dm : Nat → Nat} (h : JB C R P A ptr dm) (h15 : ¬ C 0 15 = 0) : ∃ D, JB (nBck C) (up2 (bkI R 328 337 232) 311 32 0) P 0 ptr (fun _ => D) := by
  obtain ⟨⟨a1, a2, a3, a4, a5⟩, b, c, e2, f1, f2, g⟩ := h
  have g15 := f1.resolve_left h15
  obtain ⟨D, hD⟩ := g g15
  have cx : ∀ x, x < 36 ∨ 46 ≤ x → nBck C x = C x := fun x h1 => by
    unfold nBck
    rw [up2_ne (by omega)]
    funext k
    unfold cpL
    rw [if_neg (by omega), putS_far (by omega)]
  have c1 : nBck C 45 1 = C 45 1 := by
    unfold nBck
    rw [up2_nk (by decide)]
    unfold cpL
    rw [if_neg (by omega), putS_far (by omega)]
  refine ⟨D, ⟨by omega, a2, by rw [c1]; exact a3, up2_sa _ _ _ _, up2_sa _ _ _ _⟩, ?_, fun m hm => absurd hm (by omega), fun m hm => absurd hm (by omega), by rw [cx 0 (by omega)]; exact f1, by rw [cx 0 (by omega), up2_nk (by decide), bkI_ne (by decide)]; exact f2, fun _ => ⟨D, ?_⟩⟩
  · refine hD.to (fun r k hk => ?_) (fun k hk => ?_) (fun j w hj hw => ?_)
    · have hr : r ≤ 4 := by unfold inSt at hk; omega
      show up2 (cpL (putS C 36 (getS C 247)) 41 252) 45 2 0 (36 + r) k = C (247 + r) k
      rw [up2_ne (by omega)]
      unfold cpL
      rw [if_neg (by omega), putS_in hk]
      rfl
    · rw [up2_ne (by decide)]
      unfold bkI
      rw [if_pos ⟨rfl, hk⟩]
    · show up2 (cpL (putS C 36 (getS C 247)) 41 252) 45 2 0 (41 + 1 + w) _ = C (252 + 1 + w) _
      rw [up2_ne (by omega)]
      unfold cpL
      rw [if_pos ⟨by omega, Nat.mod_lt _ (by decide)⟩, show 252 + (41 + 1 + w - 41) = 252 + 1 + w by omega, putS_far (by omega)]
  · exact hD.to (fun r k hk => by show nBck C (247 + r) k = C (247 + r) k; rw [cx _ (by omega)]) (fun k _ => by rw [up2_ne (by decide), bkI_ne (by decide)]) (fun j w _ hw => by show nBck C (252 + 1 + w) _ = C (252 + 1 + w) _; rw [cx _ (by omega)])
