/-! ===== the reference: shares, and who and what is most ===== -/
/-- a sum over some places -/
def smI (c : Nat → Bool) (we : Nat → Int32) (k : Nat) (a : Int32) : Int32 := if c k = true then a + we k else a
theorem wa_bf (we : Nat → Int32) (c : Nat → Bool) : waF we (nI (bfN c 12)) = foldN (smI c we) 12 0 := by
  refine foldN_congr fun k x hk => ?_
  unfold waS smI
  by_cases e : c k = true
  · rw [if_pos ((bf_inT hk).mpr e), if_pos e]
  · rw [if_neg (fun z => e ((bf_inT hk).mp z)), if_neg e]
theorem sm_rng {c : Nat → Bool} {we : Nat → Int32} (h : ∀ k, k < 12 → rng (we k) 30) : ∀ n, n ≤ 12 → rng (foldN (smI c we) n 0) (30 * n)
  | 0, _ => ⟨0, by omega, rfl⟩
  | n + 1, hn => by
    obtain ⟨s, hs, e⟩ := sm_rng (c := c) h n (by omega)
    obtain ⟨w, hw, e2⟩ := h n (by omega)
    rw [foldN_s]
    unfold smI
    split
    · exact ⟨s + w, by omega, by show foldN (smI c we) n 0 + we n = _; rw [e, e2, nI_add]⟩
    · exact ⟨s, by omega, e⟩
theorem bu_brd {P : Nat} {V : SV} (hV : SVok P V) (p : Int32) : foldN (buS V p) 12 0 = brd V p := by
  unfold brd
  rw [hw_bf, hl_bf, bf_and, wa_bf]
  refine foldN_congr fun k x hk => ?_
  unfold buS smI
  have e := wbf0 (ki := V 4 k) (hV.1 k hk).2.2.1
  by_cases c : hoP V k ∧ V 2 k = p
  · rw [if_pos c, if_pos]
    show (decide (¬ V 3 k ≤ 0 ∧ V 2 k = p) && decide (¬ wbf (V 3 k) (V 4 k) 0 ≤ 0 ∧ inT (V 0 4) (V 1 k))) = true
    rw [e, decide_eq_true ⟨c.1.1, c.2⟩, decide_eq_true (show ¬ V 3 k ≤ 0 ∧ inT (V 0 4) (V 1 k) from c.1)]
    rfl
  · rw [if_neg c, if_neg]
    intro z
    have z : (decide (¬ V 3 k ≤ 0 ∧ V 2 k = p) && decide (¬ wbf (V 3 k) (V 4 k) 0 ≤ 0 ∧ inT (V 0 4) (V 1 k))) = true := z
    rw [e, Bool.and_eq_true] at z
    exact c ⟨of_decide_eq_true z.2, (of_decide_eq_true z.1).2⟩
/-- the bits of one but not of the other -/
theorem bf_not (c e : Nat → Bool) : nI (bfN c 12) &&& (nI (bfN e 12) ^^^ -1) = nI (bfN (fun k => c k && !e k) 12) := by
  apply Int32.toBitVec_inj.mp
  simp only [Int32.toBitVec_and, Int32.toBitVec_xor]
  apply BitVec.eq_of_getLsbD_eq
  intro i hi
  simp only [BitVec.getLsbD_and, BitVec.getLsbD_xor, m1bit hi]
  rw [show (nI (bfN c 12)).toBitVec = BitVec.ofNat 32 (bfN c 12) from rfl, show (nI (bfN e 12)).toBitVec = BitVec.ofNat 32 (bfN e 12) from rfl, show (nI (bfN (fun k => c k && !e k) 12)).toBitVec = BitVec.ofNat 32 (bfN (fun k => c k && !e k) 12) from rfl]
  rw [BitVec.getLsbD_ofNat, BitVec.getLsbD_ofNat, BitVec.getLsbD_ofNat, bfN_tb, bfN_tb, bfN_tb]
  cases decide (i < 32) <;> cases decide (i < 12) <;> cases c i <;> cases e i <;> rfl
theorem un_su {P : Nat} {V : SV} (hV : SVok P V) {f : Int32} (hf : rng f 10) : unF (V 3) (V 4) (V 1) (V 2) (V 0 4) f = suF f V := by
  refine foldN_congr fun k x hk => ?_
  unfold unS suS
  by_cases c : V 3 k ≤ 0
  · rw [if_pos c, if_pos (by rw [wbf_0 (hV.1 k hk).2.2.1 hf c]; exact le00)]
  · rw [if_neg c]
/-- the heaviest: the place alone -/
def hvS (V : SV) (k : Nat) (a : Int32) : Int32 := if ¬ V 3 k ≤ 0 ∧ (a = -1 ∨ ¬ V 3 k ≤ V 3 a.toNatClampNeg) then nI k else a
theorem hv_hu {P : Nat} {V : SV} (hV : SVok P V) : ∀ n, n ≤ 12 → foldN (hvS V) n (-1) = (foldN (huS (V 3)) n (-1, 0)).1 ∧ ((foldN (huS (V 3)) n (-1, 0)).1 = -1 ∧ (foldN (huS (V 3)) n (-1, 0)).2 = 0 ∨ ∃ j, j < n ∧ (foldN (huS (V 3)) n (-1, 0)).1 = nI j ∧ (foldN (huS (V 3)) n (-1, 0)).2 = V 3 j ∧ ¬ V 3 j ≤ 0)
  | 0, _ => ⟨rfl, Or.inl ⟨rfl, rfl⟩⟩
  | n + 1, hn => by
    obtain ⟨h1, h2⟩ := hv_hu hV n (by omega)
    rw [foldN_s, foldN_s, h1]
    generalize foldN (huS (V 3)) n (-1, 0) = A at h2 ⊢
    have hu : huS (V 3) n A = if V 3 n ≤ A.2 then A else (nI n, V 3 n) := rfl
    rw [hu]
    unfold hvS
    rcases h2 with ⟨e1, e2⟩ | ⟨j, hj, e1, e2, e3⟩
    · rw [e2]
      by_cases c : V 3 n ≤ 0
      · rw [if_pos c, if_neg (fun z => z.1 c)]
        exact ⟨rfl, Or.inl ⟨e1, e2⟩⟩
      · rw [if_neg c, if_pos ⟨c, Or.inl e1⟩]
        exact ⟨rfl, Or.inr ⟨n, by omega, rfl, rfl, c⟩⟩
    · have ej : A.1.toNatClampNeg = j := by rw [e1, nI_clamp (by omega)]
      have en : ¬ A.1 = -1 := by rw [e1]; exact nI_m1 (by omega)
      rw [e2, ej]
      by_cases c : V 3 n ≤ V 3 j
      · rw [if_pos c, if_neg (fun z => z.2.elim en (fun y => y c))]
        exact ⟨rfl, Or.inr ⟨j, by omega, e1, e2, e3⟩⟩
      · have c0 : ¬ V 3 n ≤ 0 := fun z => by
          rw [fa_le] at c z e3
          omega
        rw [if_neg c, if_pos ⟨c0, Or.inr c⟩]
        exact ⟨rfl, Or.inr ⟨n, by omega, rfl, rfl, c0⟩⟩
/-- the most burdened: the person alone -/
def tbS (V : SV) (s : Int32) (k : Nat) (a : Int32) : Int32 := if inT (V 0 4) (nI k) ∧ (a = -1 ∨ ¬ s * brd V (nI k) ≤ s * brd V a) then nI k else a
theorem tb_mb (V : SV) (s : Int32) : ∀ n, n ≤ 5 → foldN (tbS V s) n (-1) = (foldN (mbS V s) n (-1, 0)).1 ∧ ((foldN (mbS V s) n (-1, 0)).1 = -1 ∨ ∃ j, j < n ∧ (foldN (mbS V s) n (-1, 0)).1 = nI j ∧ (foldN (mbS V s) n (-1, 0)).2 = s * brd V (nI j))
  | 0, _ => ⟨rfl, Or.inl rfl⟩
  | n + 1, hn => by
    obtain ⟨h1, h2⟩ := tb_mb V s n (by omega)
    rw [foldN_s, foldN_s, h1]
    generalize foldN (mbS V s) n (-1, 0) = A at h2 ⊢
    have hu : mbS V s n A = if ¬ inT (V 0 4) (nI n) then A else if A.1 = -1 then (nI n, s * brd V (nI n)) else if s * brd V (nI n) ≤ A.2 then A else (nI n, s * brd V (nI n)) := rfl
    rw [hu]
    unfold tbS
    by_cases ct : inT (V 0 4) (nI n)
    · rw [if_neg (show ¬ ¬ inT (V 0 4) (nI n) from fun z => z ct)]
      rcases h2 with e1 | ⟨j, hj, e1, e2⟩
      · rw [if_pos e1, if_pos ⟨ct, Or.inl e1⟩]
        exact ⟨rfl, Or.inr ⟨n, by omega, rfl, rfl⟩⟩
      · have en : ¬ A.1 = -1 := by rw [e1]; exact nI_m1 (by omega)
        rw [if_neg en, e2, e1]
        by_cases c : s * brd V (nI n) ≤ s * brd V (nI j)
        · rw [if_pos c, if_neg (fun z => z.2.elim (fun y => en (e1.trans y)) (fun y => y c))]
          exact ⟨e1.symm, Or.inr ⟨j, by omega, e1, e2⟩⟩
        · rw [if_neg c, if_pos ⟨ct, Or.inr c⟩]
          exact ⟨rfl, Or.inr ⟨n, by omega, rfl, rfl⟩⟩
    · rw [if_pos (show ¬ inT (V 0 4) (nI n) from ct), if_neg (fun z => ct z.1)]
      rcases h2 with e1 | ⟨j, hj, e1, e2⟩
      · exact ⟨rfl, Or.inl e1⟩
      · exact ⟨rfl, Or.inr ⟨j, by omega, e1, e2⟩⟩
/-! treaties, counted both ways -/
def tyB (V : SV) (i j : Nat) : Nat := if tyP V (nI i) (nI j) then 1 else 0
theorem ty_sym (V : SV) (i j : Nat) : tyB V i j = tyB V j i := by
  unfold tyB
  by_cases c : tyP V (nI i) (nI j)
  · rw [if_pos c, if_pos (show tyP V (nI j) (nI i) from ⟨c.2, c.1⟩)]
  · rw [if_neg c, if_neg (fun z => c (show tyP V (nI i) (nI j) from ⟨z.2, z.1⟩))]
def sumN (f : Nat → Nat) : Nat → Nat
  | 0 => 0
  | n + 1 => sumN f n + f n
theorem tr1_sum (V : SV) (i a : Nat) : ∀ m, foldN (tr1 V i) m (nI a) = nI (a + sumN (fun t => tyB V i (i + 1 + t)) m)
  | 0 => rfl
  | m + 1 => by
    rw [foldN_s, tr1_sum V i a m]
    show (if tyP V (nI i) (nI (i + 1 + m)) then nI (a + sumN (fun t => tyB V i (i + 1 + t)) m) + 1 else nI (a + sumN (fun t => tyB V i (i + 1 + t)) m)) = nI (a + (sumN (fun t => tyB V i (i + 1 + t)) m + tyB V i (i + 1 + m)))
    unfold tyB
    by_cases c : tyP V (nI i) (nI (i + 1 + m))
    · rw [if_pos c, if_pos c, nI_1]
      rfl
    · rw [if_neg c, if_neg c]
      rfl
theorem tr2_sum (V : SV) (n : Nat) : ∀ m, foldN (tr2 V n) m 0 = nI (sumN (fun i => sumN (fun t => tyB V i (i + 1 + t)) (n - 1 - i)) m)
  | 0 => rfl
  | m + 1 => by
    rw [foldN_s, tr2_sum V n m]
    unfold tr2
    rw [tr1_sum]
    rfl
theorem ty_both (V : SV) : ∀ n, n ≤ 5 → sumN (fun i => sumN (fun t => tyB V i (i + 1 + t)) (n - 1 - i)) n = sumN (fun p => sumN (fun o => tyB V p o) p) n := by
  intro n hn
  have s := ty_sym V
  have h : n = 0 ∨ n = 1 ∨ n = 2 ∨ n = 3 ∨ n = 4 ∨ n = 5 := by omega
  rcases h with rfl | rfl | rfl | rfl | rfl | rfl
  · rfl
  · rfl
  · simp only [sumN]
    rw [s 1 0]
    rfl
  · simp only [sumN]
    rw [s 1 0, s 2 0, s 2 1]
    show (0 + (0 + tyB V 0 1 + tyB V 0 2) + (0 + tyB V 1 2) + 0 : Nat) = 0 + 0 + (0 + tyB V 0 1) + (0 + tyB V 0 2 + tyB V 1 2)
    omega
  · simp only [sumN]
    rw [s 1 0, s 2 0, s 2 1, s 3 0, s 3 1, s 3 2]
    show (0 + (0 + tyB V 0 1 + tyB V 0 2 + tyB V 0 3) + (0 + tyB V 1 2 + tyB V 1 3) + (0 + tyB V 2 3) + 0 : Nat) = 0 + 0 + (0 + tyB V 0 1) + (0 + tyB V 0 2 + tyB V 1 2) + (0 + tyB V 0 3 + tyB V 1 3 + tyB V 2 3)
    omega
  · simp only [sumN]
    rw [s 1 0, s 2 0, s 2 1, s 3 0, s 3 1, s 3 2, s 4 0, s 4 1, s 4 2, s 4 3]
    show (0 + (0 + tyB V 0 1 + tyB V 0 2 + tyB V 0 3 + tyB V 0 4) + (0 + tyB V 1 2 + tyB V 1 3 + tyB V 1 4) + (0 + tyB V 2 3 + tyB V 2 4) + (0 + tyB V 3 4) + 0 : Nat) = 0 + 0 + (0 + tyB V 0 1) + (0 + tyB V 0 2 + tyB V 1 2) + (0 + tyB V 0 3 + tyB V 1 3 + tyB V 2 3) + (0 + tyB V 0 4 + tyB V 1 4 + tyB V 2 4 + tyB V 3 4)
    omega
