/-! ===== pure words ===== -/
def foldN {α : Type} (f : Nat → α → α) : Nat → α → α
  | 0, a => a
  | n + 1, a => f n (foldN f n a)
theorem foldN_0 {α : Type} (f : Nat → α → α) (a : α) : foldN f 0 a = a := rfl
theorem foldN_s {α : Type} (f : Nat → α → α) (n : Nat) (a : α) : foldN f (n + 1) a = f n (foldN f n a) := rfl
theorem foldN_congr {α : Type} {f g : Nat → α → α} {n : Nat} {a : α} (h : ∀ k x, k < n → f k x = g k x) : foldN f n a = foldN g n a := by
  induction n with
  | zero => rfl
  | succ n ih => rw [foldN_s, foldN_s, ih (fun k x hk => h k x (by omega)), h n _ (by omega)]
theorem dn {P : Nat → Prop} {N : Nat} (h0 : P N) (hs : ∀ k, k < N → P (k + 1) → P k) : ∀ k, k ≤ N → P k := by
  intro k hk
  obtain ⟨j, rfl⟩ : ∃ j, N = k + j := ⟨N - k, by omega⟩
  clear hk
  induction j generalizing k with
  | zero => exact h0
  | succ j ih => exact hs k (by omega) (ih (k + 1) (by rw [show k + 1 + j = k + (j + 1) by omega]; exact h0) (fun q hq => hs q (by omega)))
def maxI (x y : Int32) : Int32 := if x < y then y else x
def minI (x y : Int32) : Int32 := if y < x then y else x
def absI (x : Int32) : Int32 := if 0 ≤ x then x else -x
theorem lpF {N : Int32} {n k : Nat} (hN : nI n = N) (h : k < n) (hn : n < 2 ^ 31) : (N ≤ nI k) = False := by
  subst hN
  simp only [eq_iff_iff, iff_false]
  exact nI_ge h hn
theorem lpT {N : Int32} {n : Nat} (hN : nI n = N) : (N ≤ nI n) = True := by
  subst hN
  simp
/-- bit p of t -/
abbrev inT (t p : Int32) : Prop := (t >>> (p &&& 31)) &&& 1 = 1
def bInt (p : Prop) [Decidable p] : Int32 := if p then 1 else 0
theorem bInt_t {p : Prop} [Decidable p] (h : p) : bInt p = 1 := if_pos h
theorem bInt_f {p : Prop} [Decidable p] (h : ¬ p) : bInt p = 0 := if_neg h
theorem bInt_01 (p : Prop) [Decidable p] : bInt p = 0 ∨ bInt p = 1 := by
  by_cases h : p
  · exact Or.inr (bInt_t h)
  · exact Or.inl (bInt_f h)
theorem bInt_0 (p : Prop) [Decidable p] : (bInt p = 0) = ¬ p := by
  by_cases h : p
  · rw [bInt_t h]; simp [h]
  · rw [bInt_f h]; simp [h]
/-- how heavy behind fading -/
def wbf (we ki fade : Int32) : Int32 := if ki = 1 then we else maxI 0 (we - fade)
def bitS (k : Nat) : Int32 := (1 : Int32) <<< (nI k &&& 31)
def bitI (x : Int32) : Int32 := (1 : Int32) <<< (x &&& 31)
theorem Ex.lvE {E : EV} {d : Nat} {M : MI} {Q : QT} {pc : Nat} {lv lv' : LVs} {st : List Value} {b : Nat × Nat} {G : GD} {I : IM} (h : Ex E d M Q pc lv st b G I) (e : lv = lv') : Ex E d M Q pc lv' st b G I := e ▸ h
theorem Ex.to {E : EV} {d : Nat} {M : MI} {Q : QT} {pc : Nat} {lv lv' : LVs} {st : List Value} {b : Nat × Nat} {G : GD} {I I' : IM} (h : Ex E d M Q pc lv st b G I) (e : lv = lv') (e2 : I = I') : Ex E d M Q pc lv' st b G I' := e ▸ e2 ▸ h
/-- a State's value: row 0 its numbers (4 town, 5 coins, 6 day), rows 1 to 4 who holds, against whom, how heavy, kind -/
abbrev SV : Type := Nat → Nat → Int32
def inSt (r k : Nat) : Prop := (r = 0 ∧ (k = 4 ∨ k = 5 ∨ k = 6)) ∨ (1 ≤ r ∧ r ≤ 4 ∧ k < 12)
def getS (I : IM) (i : Nat) : SV := fun r k => I (i + r) k
def putS (I : IM) (i : Nat) (V : SV) : IM := fun b k => @ite Int32 (i ≤ b ∧ inSt (b - i) k) (by unfold inSt; infer_instance) (V (b - i) k) (I b k)
theorem putS_in {I : IM} {i r k : Nat} {V : SV} (h : inSt r k) : putS I i V (i + r) k = V r k := by
  unfold putS
  rw [if_pos ⟨Nat.le_add_right _ _, by rw [Nat.add_sub_cancel_left]; exact h⟩, Nat.add_sub_cancel_left]
theorem putS_out {I : IM} {i b k : Nat} {V : SV} (h : ¬ (i ≤ b ∧ inSt (b - i) k)) : putS I i V b k = I b k := by
  unfold putS
  rw [if_neg h]
theorem putS_far {I : IM} {i b : Nat} {V : SV} (h : b < i ∨ i + 4 < b) : putS I i V b = I b := by
  funext k
  refine putS_out (fun q => ?_)
  unfold inSt at q
  omega
theorem putS_eq {I J : IM} {i : Nat} {V : SV} (h1 : ∀ r k, inSt r k → J (i + r) k = V r k) (h2 : ∀ b k, ¬ (i ≤ b ∧ inSt (b - i) k) → J b k = I b k) : putS I i V = J := by
  funext b k
  by_cases h : i ≤ b ∧ inSt (b - i) k
  · obtain ⟨r, rfl⟩ : ∃ r, b = i + r := ⟨b - i, by omega⟩
    rw [Nat.add_sub_cancel_left] at h
    rw [putS_in h.2, h1 r k h.2]
  · rw [putS_out h, h2 b k h]
/-- alike where a State has something -/
def eqS (V W : SV) : Prop := ∀ r k, inSt r k → V r k = W r k
theorem putS_congr {I : IM} {i : Nat} {V W : SV} (h : eqS V W) : putS I i V = putS I i W := putS_eq (fun r k hk => by rw [putS_in hk, h r k hk]) (fun b k hk => putS_out hk)
theorem putS_self (I : IM) (i : Nat) : putS I i (getS I i) = I := putS_eq (fun _ _ _ => rfl) (fun _ _ _ => rfl)
theorem putS_putS {I : IM} {i : Nat} {V W : SV} : putS (putS I i V) i W = putS I i W := (putS_eq (fun r k hk => by rw [putS_in hk]) (fun b k hk => by rw [putS_out hk, putS_out hk])).symm
/-! the JDK's bit counts, as their code reckons -/
def ush (x y : Int32) : Int32 := (x.toUInt32 >>> (y.toUInt32 &&& Int32.toUInt32 31)).toInt32
def n74 (x y : Int32) : Int32 := y + ush x 1
def n62 (x y : Int32) : Int32 := if x ≤ 4 then n74 x y else n74 (ush x 2) (y + 2)
def n49 (x y : Int32) : Int32 := if x ≤ 16 then n62 x y else n62 (ush x 4) (y + 4)
def n34 (x y : Int32) : Int32 := if x ≤ 256 then n49 x y else n49 (ush x 8) (y + 8)
def n19 (x y : Int32) : Int32 := if x ≤ 65536 then n34 x y else n34 (ush x 16) (y + 16)
def ntzI (z : Int32) : Int32 := if 0 < (z ^^^ -1) &&& (z - 1) then n19 ((z ^^^ -1) &&& (z - 1)) 1 else ((z ^^^ -1) &&& (z - 1)) &&& 32
/-- the first n of row a are g's -/
def rowN (I : IM) (a : Nat) (g : Nat → Int32) (n : Nat) : IM := fun b j => if b = a ∧ j < n then g j else I b j
theorem rowN_0 (I : IM) (a : Nat) (g : Nat → Int32) : rowN I a g 0 = I := by
  funext b j
  simp [rowN]
theorem rowN_ne {I : IM} {a b n : Nat} {g : Nat → Int32} (h : b ≠ a) : rowN I a g n b = I b := by
  funext j
  simp [rowN, h]
theorem rowN_ge {I : IM} {a n k : Nat} {g : Nat → Int32} (h : n ≤ k) : rowN I a g n a k = I a k := by
  unfold rowN
  rw [if_neg (by omega)]
theorem rowN_lt {I : IM} {a n k : Nat} {g : Nat → Int32} (h : k < n) : rowN I a g n a k = g k := by
  unfold rowN
  rw [if_pos ⟨rfl, h⟩]
theorem rowN_s {I : IM} {a k : Nat} {g : Nat → Int32} {v : Int32} (h : v = g k) : up2 (rowN I a g k) a k v = rowN I a g (k + 1) := by
  funext b j
  unfold up2 rowN
  by_cases hb : b = a
  · by_cases hj : j = k
    · subst hj; simp [hb, h]
    · by_cases hl : j < k
      · simp [hb, hj, hl, Nat.lt_succ_of_lt hl]
      · simp [hb, hj, hl, show ¬ j < k + 1 by omega]
  · simp [hb]
theorem rowN_same {I : IM} {a k : Nat} {g : Nat → Int32} (h : I a k = g k) : rowN I a g k = rowN I a g (k + 1) := by
  funext b j
  unfold rowN
  by_cases hb : b = a
  · by_cases hj : j = k
    · subst hj; simp [hb, h]
    · by_cases hl : j < k
      · simp [hb, hl, Nat.lt_succ_of_lt hl]
      · simp [hb, hl, show ¬ j < k + 1 by omega]
  · simp [hb]
theorem up2_row {I : IM} {a a' k n : Nat} {g : Nat → Int32} {v : Int32} (h : a ≠ a') : up2 (rowN I a' g n) a k v = rowN (up2 I a k v) a' g n := by
  funext b j
  unfold up2 rowN
  by_cases hb : b = a
  · subst hb; simp [h]
  · simp [hb]
theorem inSt_r {r k : Nat} (h1 : 1 ≤ r) (h4 : r ≤ 4) (hk : k < 12) : inSt r k := Or.inr ⟨h1, h4, hk⟩
theorem putS_row {I : IM} {i r : Nat} {g : Nat → Int32} (h1 : 1 ≤ r) (h4 : r ≤ 4) : putS I i (upr (getS I i) r g) = rowN I (i + r) g 12 := by
  refine putS_eq (fun q k hk => ?_) (fun b k hk => ?_)
  · unfold upr rowN getS
    by_cases e : q = r
    · subst e
      unfold inSt at hk
      rw [if_pos ⟨rfl, by omega⟩, if_pos rfl]
    · rw [if_neg (by omega), if_neg e]
  · unfold rowN
    rw [if_neg]
    rintro ⟨rfl, h⟩
    exact hk ⟨Nat.le_add_right _ _, by rw [Nat.add_sub_cancel_left]; exact inSt_r h1 h4 h⟩
theorem putS_num {I : IM} {i k : Nat} {v : Int32} (hk : k = 4 ∨ k = 5 ∨ k = 6) : putS I i (up2 (getS I i) 0 k v) = up2 I i k v := by
  refine putS_eq (fun q j hj => ?_) (fun b j hj => ?_)
  · unfold up2 getS
    by_cases e : q = 0
    · subst e; simp
    · rw [if_neg (by omega), if_neg e]
  · unfold up2
    by_cases e : b = i
    · subst e
      rw [if_pos rfl, if_neg]
      rintro rfl
      exact hj ⟨Nat.le_refl _, by rw [Nat.sub_self]; exact Or.inl ⟨rfl, hk⟩⟩
    · rw [if_neg e]
theorem getS_putS {I : IM} {i : Nat} {V : SV} : eqS (getS (putS I i V) i) V := fun r k h => putS_in h
theorem eqS.symm {V W : SV} (h : eqS V W) : eqS W V := fun r k q => (h r k q).symm
theorem eqS.trans {V W X : SV} (h : eqS V W) (h2 : eqS W X) : eqS V X := fun r k q => (h r k q).trans (h2 r k q)
theorem eqS.rf {V : SV} : eqS V V := fun _ _ _ => rfl
