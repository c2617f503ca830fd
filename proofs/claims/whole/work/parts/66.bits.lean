/-! ===== sets of places as bits ===== -/
theorem sm31 : ∀ j, j < 32 → (nI j &&& 31).toBitVec.smod 32 = BitVec.ofNat 32 j := by decide +kernel
theorem one_bit (y : BitVec 32) : y &&& (1 : Int32).toBitVec = (1 : Int32).toBitVec ↔ y.getLsbD 0 = true := by
  have h1 : ∀ i, i < 32 → (1 : Int32).toBitVec.getLsbD i = decide (i = 0) := by decide
  constructor
  · intro h
    have := congrArg (fun z => z.getLsbD 0) h
    simp only [BitVec.getLsbD_and, h1 0 (by decide)] at this
    simpa using this
  · intro h
    apply BitVec.eq_of_getLsbD_eq
    intro i hi
    rw [BitVec.getLsbD_and, h1 i hi]
    by_cases e : i = 0
    · subst e
      simp [h]
    · simp [e]
theorem inT_bit (x : Int32) {j : Nat} (hj : j < 32) : inT x (nI j) ↔ x.toBitVec.getLsbD j = true := by
  unfold inT
  rw [← Int32.toBitVec_inj, Int32.toBitVec_and, one_bit, Int32.toBitVec_shiftRight, sm31 j hj, BitVec.sshiftRight_eq', BitVec.getLsbD_sshiftRight]
  rw [BitVec.toNat_ofNat, Nat.mod_eq_of_lt (by omega)]
  simp [hj]
theorem inT_tb (t : Nat) {j : Nat} (hj : j < 32) : inT (nI t) (nI j) ↔ t.testBit j = true := by
  rw [inT_bit _ hj]
  show (BitVec.ofNat 32 t).getLsbD j = true ↔ _
  rw [BitVec.getLsbD_ofNat]
  simp [hj]
theorem bitS_p : ∀ k, k < 31 → bitS k = nI (2 ^ k) := by decide +kernel
def bfN (c : Nat → Bool) : Nat → Nat
  | 0 => 0
  | n + 1 => bfN c n ||| (if c n then 2 ^ n else 0)
theorem bfN_s (c : Nat → Bool) (n : Nat) : bfN c (n + 1) = bfN c n ||| (if c n then 2 ^ n else 0) := rfl
theorem bfN_tb (c : Nat → Bool) (j : Nat) : ∀ n, (bfN c n).testBit j = (decide (j < n) && c j)
  | 0 => by simp [bfN]
  | n + 1 => by
    rw [bfN_s, Nat.testBit_or, bfN_tb c j n]
    by_cases e : j = n
    · subst e
      cases h : c j <;> simp
    · have e2 : (j < n + 1) = (j < n) := by
        apply propext
        omega
      have e3 : (if c n then 2 ^ n else 0).testBit j = false := by
        split
        · rw [Nat.testBit_two_pow]
          simp
          omega
        · simp
      rw [e3]
      simp [e2]
def bfI (c : Nat → Bool) (k : Nat) (a : Int32) : Int32 := if c k = true then a ||| bitS k else a
theorem bf_nI (c : Nat → Bool) : ∀ n, n ≤ 31 → foldN (bfI c) n 0 = nI (bfN c n)
  | 0, _ => rfl
  | n + 1, h => by
    rw [foldN_s, bf_nI c n (by omega), bfN_s]
    unfold bfI
    by_cases e : c n = true
    · rw [if_pos e, if_pos e, bitS_p n (by omega), fa_or]
    · rw [if_neg e, if_neg e, Nat.or_zero]
theorem bfN_lt (c : Nat → Bool) (n : Nat) : bfN c n < 2 ^ n := by
  apply Nat.lt_pow_two_of_testBit
  intro i hi
  rw [bfN_tb]
  simp
  omega
theorem bf_and (c e : Nat → Bool) : nI (bfN c 12) &&& nI (bfN e 12) = nI (bfN (fun k => c k && e k) 12) := by
  rw [fa_and]
  congr 1
  apply Nat.eq_of_testBit_eq
  intro i
  rw [Nat.testBit_and, bfN_tb, bfN_tb, bfN_tb]
  cases decide (i < 12) <;> simp
theorem bf_congr {c e : Nat → Bool} : ∀ {n : Nat}, (∀ k, k < n → c k = e k) → bfN c n = bfN e n
  | 0, _ => rfl
  | n + 1, h => by
    rw [bfN_s, bfN_s, bf_congr (fun k hk => h k (by omega)), h n (by omega)]
theorem bf_inT {c : Nat → Bool} {j : Nat} (hj : j < 12) : inT (nI (bfN c 12)) (nI j) ↔ c j = true := by
  rw [inT_tb _ (by omega), bfN_tb]
  simp [hj]
theorem bf_zero {c : Nat → Bool} : nI (bfN c 12) = 0 ↔ ∀ k, k < 12 → c k = false := by
  have hl := bfN_lt c 12
  rw [show (0 : Int32) = nI 0 from rfl, nI_eq (by omega) (by decide)]
  constructor
  · intro h k hk
    have := bfN_tb c k 12
    rw [h] at this
    simp [hk] at this
    exact this
  · intro h
    apply Nat.eq_of_testBit_eq
    intro i
    rw [bfN_tb, Nat.zero_testBit]
    by_cases e : i < 12
    · simp [h i e]
    · simp [e]
theorem hw_bf (we wh : Nat → Int32) (p : Int32) : hwF we wh p = nI (bfN (fun k => decide (¬ we k ≤ 0 ∧ wh k = p)) 12) := by
  rw [← bf_nI _ 12 (by decide)]
  refine foldN_congr fun k x _ => ?_
  unfold hwS bfI
  by_cases c1 : we k ≤ 0
  · rw [if_pos c1, if_neg (by simp [c1])]
  · rw [if_neg c1]
    by_cases c2 : wh k = p
    · rw [if_pos c2, if_pos (by simp [c1, c2])]
    · rw [if_neg c2, if_neg (by simp [c2])]
theorem hl_bf (we ki ho : Nat → Int32) (t f : Int32) : hlF we ki ho t f = nI (bfN (fun k => decide (¬ wbf (we k) (ki k) f ≤ 0 ∧ inT t (ho k))) 12) := by
  rw [← bf_nI _ 12 (by decide)]
  refine foldN_congr fun k x _ => ?_
  unfold hlS bfI
  by_cases c1 : wbf (we k) (ki k) f ≤ 0
  · rw [if_pos c1, if_neg (by simp [c1])]
  · rw [if_neg c1]
    by_cases c2 : inT t (ho k)
    · rw [if_pos c2, if_pos (decide_eq_true ⟨c1, c2⟩)]
    · rw [if_neg c2, if_neg (fun z => c2 (of_decide_eq_true z).2)]
theorem hb_bf (we ki : Nat → Int32) (f : Int32) : hbF we ki f = nI (bfN (fun k => decide (¬ wbf (we k) (ki k) f ≤ 0)) 12) := by
  rw [← bf_nI _ 12 (by decide)]
  refine foldN_congr fun k x _ => ?_
  unfold hbS bfI
  by_cases c1 : wbf (we k) (ki k) f ≤ 0
  · rw [if_pos c1, if_neg (by simp [c1])]
  · rw [if_neg c1, if_pos (by simp [c1])]
/-- how many of the bits are set -/
def pcN (t : Nat) : Nat → Nat
  | 0 => 0
  | n + 1 => pcN t n + (if t.testBit n then 1 else 0)
theorem pcN_s (t n : Nat) : pcN t (n + 1) = pcN t n + (if t.testBit n then 1 else 0) := rfl
theorem bc_64 : ∀ a, a < 64 → ∀ b, b < 64 → bcI (nI (64 * a + b)) = nI (pcN (64 * a + b) 12) := by decide +kernel
theorem bc_pc {t : Nat} (h : t < 4096) : bcI (nI t) = nI (pcN t 12) := by
  have := bc_64 (t / 64) (by omega) (t % 64) (by omega)
  rw [Nat.div_add_mod] at this
  exact this
theorem pc_hm (V : SV) (c : Nat → Bool) (hc : ∀ k, k < 12 → (c k = true ↔ ¬ V 3 k ≤ 0)) : ∀ n, n ≤ 12 → foldN (hmS V) n 0 = nI (pcN (bfN c 12) n)
  | 0, _ => rfl
  | n + 1, h => by
    rw [foldN_s, pc_hm V c hc n (by omega), pcN_s, bfN_tb c n 12]
    unfold hmS
    have hn : n < 12 := by omega
    by_cases c1 : V 3 n ≤ 0
    · have : c n = false := by
        cases h : c n
        · rfl
        · exact absurd c1 ((hc n hn).mp h)
      rw [if_pos c1, this]
      simp
    · rw [if_neg c1, (hc n hn).mpr c1]
      simp [hn, nI_succ]
theorem wbf0 {x ki : Int32} (h : rng x 30) : wbf x ki 0 = x := by
  obtain ⟨w, hw, rfl⟩ := h
  unfold wbf
  split
  · rfl
  · revert w
    decide
/-- how many are heavy, both ways -/
theorem hm_bc {P : Nat} {V : SV} (hV : SVok P V) : hmF V = bcI (hbF (V 3) (V 4) 0) := by
  rw [hb_bf]
  have hl := bfN_lt (fun k => decide (¬ wbf (V 3 k) (V 4 k) 0 ≤ 0)) 12
  rw [bc_pc hl]
  exact pc_hm V _ (fun k hk => by rw [wbf0 (hV.1 k hk).2.2.1]; simp) 12 (Nat.le_refl _)
