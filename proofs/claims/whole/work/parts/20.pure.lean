/-! ===== pure words ===== -/
def foldN {α : Type} (f : Nat → α → α) : Nat → α → α
  | 0, a => a
  | n + 1, a => f n (foldN f n a)
theorem foldN_0 {α : Type} (f : Nat → α → α) (a : α) : foldN f 0 a = a := rfl
theorem foldN_s {α : Type} (f : Nat → α → α) (n : Nat) (a : α) : foldN f (n + 1) a = f n (foldN f n a) := rfl
theorem foldN_congr {α : Type} {f g : Nat → α → α} {n : Nat} {a : α} (h : ∀ k x, k < n → f k x = g k x) : foldN f n a = foldN g n a := by
  induction n with
  | zero => rfl
  | succ n ih => rw [foldN_s, foldN_s, ih (fun k x hk => h k x (by omega)), h n _ (by omega)]
theorem dn {P : Nat → Prop} {N : Nat} (h0 : P N) (hs : ∀ k, k < N → P (k + 1) → P k) : ∀ k, k ≤ N → P k := by
  intro k hk
  obtain ⟨j, rfl⟩ : ∃ j, N = k + j := ⟨N - k, by omega⟩
  clear hk
  induction j generalizing k with
  | zero => exact h0
  | succ j ih => exact hs k (by omega) (ih (k + 1) (by rw [show k + 1 + j = k + (j + 1) by omega]; exact h0) (fun q hq => hs q (by omega)))
def maxI (x y : Int32) : Int32 := if x < y then y else x
def minI (x y : Int32) : Int32 := if y < x then y else x
def absI (x : Int32) : Int32 := if 0 ≤ x then x else -x
theorem lpF {N : Int32} {n k : Nat} (hN : nI n = N) (h : k < n) (hn : n < 2 ^ 31) : (N ≤ nI k) = False := by
  subst hN
  simp only [eq_iff_iff, iff_false]
  exact nI_ge h hn
theorem lpT {N : Int32} {n : Nat} (hN : nI n = N) : (N ≤ nI n) = True := by
  subst hN
  simp
/-- bit p of t -/
def inT (t p : Int32) : Prop := (t >>> (p &&& 31)) &&& 1 = 1
def bInt (p : Prop) : Int32 := @ite Int32 p (Classical.propDecidable p) 1 0
theorem bInt_t {p : Prop} (h : p) : bInt p = 1 := by unfold bInt; rw [if_pos h]
theorem bInt_f {p : Prop} (h : ¬ p) : bInt p = 0 := by unfold bInt; rw [if_neg h]
theorem bInt_01 (p : Prop) : bInt p = 0 ∨ bInt p = 1 := by
  by_cases h : p
  · exact Or.inr (bInt_t h)
  · exact Or.inl (bInt_f h)
theorem bInt_0 (p : Prop) : (bInt p = 0) = ¬ p := by
  by_cases h : p
  · simp [bInt_t h, h]
  · simp [bInt_f h, h]
/-- how heavy behind fading -/
def wbf (we ki fade : Int32) : Int32 := if ki = 1 then we else maxI 0 (we - fade)
def bitS (k : Nat) : Int32 := (1 : Int32) <<< (nI k &&& 31)
def bitI (x : Int32) : Int32 := (1 : Int32) <<< (x &&& 31)
