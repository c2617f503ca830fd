/-! ===== the letters and bounds that are given ===== -/
section
def gvI (a k : Nat) : Int32 :=
  if a = 100002 then (if k = 0 then 9 else 99) else if a = 100004 then 9 else if a = 100005 then (if k = 2 then 1 else 0) else if a = 100006 then (if k = 0 then 4 else if k = 1 then 4 else if k = 2 then 30 else 2)
  else if a = 100013 then (if k = 0 then 111 else if k = 1 then 97 else if k = 2 then 119 else 107) else if a = 100014 then (if k = 0 then 102 else 107) else if a = 100015 then (if k = 0 then 116 else 108)
  else if a = 100016 then (if k = 0 then 116 else if k = 1 then 108 else if k = 2 then 110 else if k = 3 then 109 else if k = 4 then 115 else 100) else 0
theorem all256 {P : Int32 → Prop} (h1 : P (-1)) (h2 : ∀ x, x < 256 → P (nI x)) : ∀ r, r = -1 ∨ (∃ x, x < 256 ∧ r = nI x) → P r := fun r h => by
  rcases h with rfl | ⟨x, hx, rfl⟩
  · exact h1
  · exact h2 x hx
theorem gv_c1 : CT 115 (gvI 100014) 2 (gvI 100001) (gvI 100002) := ⟨all256 (by decide +kernel) (by decide +kernel), by decide +kernel⟩
theorem gv_c2 : CT 112 (gvI 100015) 2 (gvI 100003) (gvI 100004) := ⟨all256 (by decide +kernel) (by decide +kernel), by decide +kernel⟩
theorem gv_c3 : CT 103 (gvI 100013) 4 (gvI 100005) (gvI 100006) := ⟨all256 (by decide +kernel) (by decide +kernel), by decide +kernel⟩
theorem gv_lt : LTok (gvI 100016) := all256 (by decide +kernel) (by decide +kernel)
/-- the memory at the law's start: no cell of its own -/
def gv0 (L : Nat) : GD := (0, fun a => if a < 100007 then 100 else if a < 100011 then 50 else 103, fun a => if a = 100000 then L else if a < 100005 then 2 else if a < 100007 then 4 else if a = 100013 then 4 else if a = 100016 then 6 else 2, fun a k => if (100007 ≤ a ∧ a < 100011) ∧ k = 0 then some (a + 6) else none, fun _ _ => 0)
def iv0 (xs : Nat → Int32) : IM := fun a k => if a = 100000 then xs k else gvI a k
theorem iv0_n {xs : Nat → Int32} {a : Nat} (h : a ≠ 100000) : iv0 xs a = gvI a := by
  funext k
  exact if_neg h
theorem gvn_0 (L : Nat) : GVn (gv0 L) := by
  refine ⟨fun j hj => ⟨⟨Or.inr (by omega), ?_⟩, ?_⟩, rfl, rfl, rfl, rfl⟩
  · show (if 100001 + j < 100007 then 100 else if 100001 + j < 100011 then 50 else 103) = 100
    rw [if_pos (by omega)]
  · show (if 100001 + j = 100000 then L else if 100001 + j < 100005 then 2 else if 100001 + j < 100007 then 4 else if 100001 + j = 100013 then 4 else if 100001 + j = 100016 then 6 else 2) = if j < 4 then 2 else 4
    rw [if_neg (by omega)]
    by_cases c : j < 4
    · rw [if_pos (by omega), if_pos c]
    · rw [if_neg (by omega), if_pos (by omega), if_neg c]
theorem gvv_0 (xs : Nat → Int32) : GVv (iv0 xs) := by
  unfold GVv
  rw [iv0_n (by decide), iv0_n (by decide), iv0_n (by decide), iv0_n (by decide), iv0_n (by decide), iv0_n (by decide), iv0_n (by decide), iv0_n (by decide), iv0_n (by decide)]
  exact ⟨gv_c1, gv_c2, gv_c3⟩
theorem ltk_0 (xs : Nat → Int32) : LTok (iv0 xs 100016) := by
  rw [iv0_n (by decide)]
  exact gv_lt
end
