/-! ===== what a law's codes are worth: the class's machine and the reference's ===== -/
def Pb (v : Int32) : Prop := -1000000 ≤ v.toInt ∧ v.toInt ≤ 1000000
def P01 (v : Int32) : Prop := v = 0 ∨ v = 1
def bdL (v : Int64) : Int32 := (maxL (-1000000) (minL 1000000 v)).toInt32
def wkF (c a b : Int32) : Int32 := if c = 2 then bdL (a.toInt64 + b.toInt64) else if c = 3 then bdL (a.toInt64 - b.toInt64) else if c = 4 then bdL (a.toInt64 * b.toInt64) else if c = 5 then (if lg_cmp b.toInt64 0 = 0 then 0 else bdL (a.toInt64 / b.toInt64)) else if c = 6 then (if lg_cmp a.toInt64 b.toInt64 = 0 then 1 else 0) else if c = 7 then (if 0 ≤ lg_cmp a.toInt64 b.toInt64 then 0 else 1) else if c = 8 then (if lg_cmp a.toInt64 b.toInt64 ≤ 0 then 0 else 1) else if c = 10 then (if lg_cmp a.toInt64 0 = 0 then 0 else if lg_cmp b.toInt64 0 = 0 then 0 else 1) else (if lg_cmp a.toInt64 0 = 0 then (if lg_cmp b.toInt64 0 = 0 then 0 else 1) else 1)
theorem toI_inj {a b : Int32} (h : a.toInt = b.toInt) : a = b := Int32.toInt_inj.mp h
theorem maxI_i (x y : Int32) : (maxI x y).toInt = max x.toInt y.toInt := by
  unfold maxI
  by_cases h : x < y
  · rw [if_pos h]
    have := Int32.lt_iff_toInt_lt.mp h
    omega
  · rw [if_neg h]
    have := Int32.le_iff_toInt_le.mp (Int32.not_lt.mp h)
    omega
theorem minI_i (x y : Int32) : (minI x y).toInt = min x.toInt y.toInt := by
  unfold minI
  by_cases h : y < x
  · rw [if_pos h]
    have := Int32.lt_iff_toInt_lt.mp h
    omega
  · rw [if_neg h]
    have := Int32.le_iff_toInt_le.mp (Int32.not_lt.mp h)
    omega
theorem maxL_i (x y : Int64) : (maxL x y).toInt = max x.toInt y.toInt := by
  unfold maxL
  by_cases h : x < y
  · rw [if_pos ((lg_cmp_lt x y).mpr h)]
    have := Int64.lt_iff_toInt_lt.mp h
    omega
  · rw [if_neg (fun z => h ((lg_cmp_lt x y).mp z))]
    have := Int64.le_iff_toInt_le.mp (Int64.not_lt.mp h)
    omega
theorem minL_i (x y : Int64) : (minL x y).toInt = min x.toInt y.toInt := by
  unfold minL
  by_cases h : y < x
  · rw [if_pos ((lg_cmp_gt x y).mpr h)]
    have := Int64.lt_iff_toInt_lt.mp h
    omega
  · rw [if_neg (fun z => h ((lg_cmp_gt x y).mp z))]
    have := Int64.le_iff_toInt_le.mp (Int64.not_lt.mp h)
    omega
theorem k6a : (-1000000 : Int32).toInt = -1000000 := by decide
theorem k6b : (1000000 : Int32).toInt = 1000000 := by decide
theorem k6c : (-1000000 : Int64).toInt = -1000000 := by decide
theorem k6d : (1000000 : Int64).toInt = 1000000 := by decide
theorem bdL_i (v : Int64) : (bdL v).toInt = max (-1000000) (min 1000000 v.toInt) := by
  unfold bdL
  rw [Int64.toInt_toInt32, maxL_i, minL_i, k6c, k6d, Int.bmod_eq_of_le_mul_two (by omega) (by omega)]
theorem bdL_b (v : Int64) : Pb (bdL v) := by
  unfold Pb
  rw [bdL_i]
  omega
theorem bdI_i (v : Int32) : (maxI (-1000000) (minI 1000000 v)).toInt = max (-1000000) (min 1000000 v.toInt) := by rw [maxI_i, minI_i, k6a, k6b]
theorem jw_add {l r : Int32} (hl : Pb l) (hr : Pb r) : jnF 43 l r = wkF 2 l r ∧ Pb (jnF 43 l r) := by
  have e1 : jnF 43 l r = maxI (-1000000) (minI 1000000 (l + r)) := rfl
  have e2 : wkF 2 l r = bdL (l.toInt64 + r.toInt64) := rfl
  have h : jnF 43 l r = wkF 2 l r := by
    unfold Pb at hl hr
    rw [e1, e2]
    apply toI_inj
    rw [bdI_i, bdL_i, Int32.toInt_add, Int64.toInt_add, Int32.toInt_toInt64, Int32.toInt_toInt64, Int.bmod_eq_of_le_mul_two (by omega) (by omega), Int.bmod_eq_of_le_mul_two (by omega) (by omega)]
  exact ⟨h, by rw [h, e2]; exact bdL_b _⟩
theorem jw_sub {l r : Int32} (hl : Pb l) (hr : Pb r) : jnF 45 l r = wkF 3 l r ∧ Pb (jnF 45 l r) := by
  have e1 : jnF 45 l r = maxI (-1000000) (minI 1000000 (l - r)) := rfl
  have e2 : wkF 3 l r = bdL (l.toInt64 - r.toInt64) := rfl
  have h : jnF 45 l r = wkF 3 l r := by
    unfold Pb at hl hr
    rw [e1, e2]
    apply toI_inj
    rw [bdI_i, bdL_i, Int32.toInt_sub, Int64.toInt_sub, Int32.toInt_toInt64, Int32.toInt_toInt64, Int.bmod_eq_of_le_mul_two (by omega) (by omega), Int.bmod_eq_of_le_mul_two (by omega) (by omega)]
  exact ⟨h, by rw [h, e2]; exact bdL_b _⟩
theorem jw_mul (l r : Int32) : jnF 42 l r = wkF 4 l r ∧ Pb (jnF 42 l r) := ⟨rfl, bdL_b _⟩
theorem i64_0 (x : Int32) : lg_cmp x.toInt64 0 = 0 ↔ x = 0 := by
  rw [lg_cmp_eq]
  constructor
  · intro h
    apply toI_inj
    rw [← Int32.toInt_toInt64, h]
    rfl
  · rintro rfl
    rfl
theorem jw_div {l r : Int32} (hl : Pb l) : jnF 47 l r = wkF 5 l r ∧ Pb (jnF 47 l r) := by
  have e1 : jnF 47 l r = if r = 0 then 0 else l / r := rfl
  have e2 : wkF 5 l r = if lg_cmp r.toInt64 0 = 0 then 0 else bdL (l.toInt64 / r.toInt64) := rfl
  have h : jnF 47 l r = wkF 5 l r := by
    rw [e1, e2]
    by_cases c : r = 0
    · rw [if_pos c, if_pos ((i64_0 r).mpr c)]
    · rw [if_neg c, if_neg (fun z => c ((i64_0 r).mp z))]
      unfold Pb at hl
      apply toI_inj
      have hn := Int.natAbs_tdiv_le_natAbs l.toInt r.toInt
      rw [bdL_i, Int32.toInt_div, Int64.toInt_div, Int32.toInt_toInt64, Int32.toInt_toInt64, Int.bmod_eq_of_le_mul_two (by omega) (by omega), Int.bmod_eq_of_le_mul_two (by omega) (by omega)]
      omega
  refine ⟨h, ?_⟩
  rw [h, e2]
  split
  · unfold Pb; decide
  · exact bdL_b _
theorem cmp64 (l r : Int32) : (lg_cmp l.toInt64 r.toInt64 = 0 ↔ l = r) ∧ (0 ≤ lg_cmp l.toInt64 r.toInt64 ↔ r ≤ l) ∧ (lg_cmp l.toInt64 r.toInt64 ≤ 0 ↔ l ≤ r) := by
  refine ⟨?_, ?_, ?_⟩
  · rw [lg_cmp_eq]
    constructor
    · intro h
      apply toI_inj
      rw [← Int32.toInt_toInt64, h, Int32.toInt_toInt64]
    · rintro rfl
      rfl
  · rw [lg_cmp_ge, Int64.le_iff_toInt_le, Int32.toInt_toInt64, Int32.toInt_toInt64, Int32.le_iff_toInt_le]
  · rw [lg_cmp_le, Int64.le_iff_toInt_le, Int32.toInt_toInt64, Int32.toInt_toInt64, Int32.le_iff_toInt_le]
theorem jw_eq (l r : Int32) : jnF 61 l r = wkF 6 l r ∧ P01 (jnF 61 l r) := by
  have e1 : jnF 61 l r = if l = r then 1 else 0 := rfl
  have e2 : wkF 6 l r = if lg_cmp l.toInt64 r.toInt64 = 0 then 1 else 0 := rfl
  rw [e1, e2]
  by_cases c : l = r
  · rw [if_pos c, if_pos ((cmp64 l r).1.mpr c)]; exact ⟨rfl, Or.inr rfl⟩
  · rw [if_neg c, if_neg (fun z => c ((cmp64 l r).1.mp z))]; exact ⟨rfl, Or.inl rfl⟩
theorem jw_lt (l r : Int32) : jnF 60 l r = wkF 7 l r ∧ P01 (jnF 60 l r) := by
  have e1 : jnF 60 l r = if r ≤ l then 0 else 1 := rfl
  have e2 : wkF 7 l r = if 0 ≤ lg_cmp l.toInt64 r.toInt64 then 0 else 1 := rfl
  rw [e1, e2]
  by_cases c : r ≤ l
  · rw [if_pos c, if_pos ((cmp64 l r).2.1.mpr c)]; exact ⟨rfl, Or.inl rfl⟩
  · rw [if_neg c, if_neg (fun z => c ((cmp64 l r).2.1.mp z))]; exact ⟨rfl, Or.inr rfl⟩
theorem jw_gt (l r : Int32) : jnF 62 l r = wkF 8 l r ∧ P01 (jnF 62 l r) := by
  have e1 : jnF 62 l r = if l ≤ r then 0 else 1 := rfl
  have e2 : wkF 8 l r = if lg_cmp l.toInt64 r.toInt64 ≤ 0 then 0 else 1 := rfl
  rw [e1, e2]
  by_cases c : l ≤ r
  · rw [if_pos c, if_pos ((cmp64 l r).2.2.mpr c)]; exact ⟨rfl, Or.inl rfl⟩
  · rw [if_neg c, if_neg (fun z => c ((cmp64 l r).2.2.mp z))]; exact ⟨rfl, Or.inr rfl⟩
theorem jw_and {l r : Int32} (hl : P01 l) (hr : P01 r) : jnF 38 l r = wkF 10 l r ∧ P01 (jnF 38 l r) := by
  unfold P01
  rcases hl with rfl | rfl <;> rcases hr with rfl | rfl <;> decide
theorem jw_or {l r : Int32} (hl : P01 l) (hr : P01 r) : jnF 124 l r = wkF 11 l r ∧ P01 (jnF 124 l r) := by
  unfold P01
  rcases hl with rfl | rfl <;> rcases hr with rfl | rfl <;> decide
/-! the machines, token by token -/
def cst (lt : Nat → Int32) (x : Int32) (s : List Int32) : List Int32 := if ¬ 10000 ≤ x then pshL s x else if ¬ 20000 ≤ x then pshL s (lt (x - 10000).toNatClampNeg) else if x = 20033 then pshL (popS s) (1 - popV s) else pshL (popS (popS s)) (jnF (x - 20000) (popV (popS s)) (popV s))
def cRun (lt : Nat → Int32) : List Int32 → List Int32 → List Int32
  | [], s => s
  | x :: r, s => cRun lt r (cst lt x s)
def rst (lt : Nat → Int32) (x : Int32) (s : List Int32) : List Int32 := if tcd x = 0 then tvl x :: s else if tcd x = 1 then lt (tvl x).toNatClampNeg :: s else if tcd x = 9 then (1 - popV s) :: popS s else wkF (tcd x) (popV (popS s)) (popV s) :: popS (popS s)
def rRun (lt : Nat → Int32) : List Int32 → List Int32 → List Int32
  | [], s => s
  | x :: r, s => rRun lt r (rst lt x s)
theorem cRun_app (lt : Nat → Int32) : ∀ (a b s : List Int32), cRun lt (a ++ b) s = cRun lt b (cRun lt a s)
  | [], _, _ => rfl
  | x :: r, b, s => cRun_app lt r b (cst lt x s)
theorem rRun_app (lt : Nat → Int32) : ∀ (a b s : List Int32), rRun lt (a ++ b) s = rRun lt b (rRun lt a s)
  | [], _, _ => rfl
  | x :: r, b, s => rRun_app lt r b (rst lt x s)
/-- heights: from h to h', never more than 32 -/
def okT : List Int32 → Nat → Nat → Prop
  | [], h, h' => h = h'
  | x :: r, h, h' => if x < 20000 then h < 32 ∧ okT r (h + 1) h' else if x = 20033 then 1 ≤ h ∧ okT r h h' else 2 ≤ h ∧ okT r (h - 1) h'
theorem okT_app : ∀ (a b : List Int32) (h h1 h2 : Nat), okT a h h1 → okT b h1 h2 → okT (a ++ b) h h2
  | [], b, h, h1, h2, e, hb => by
    have e : h = h1 := e
    subst e
    exact hb
  | x :: r, b, h, h1, h2, ha, hb => by
    unfold okT at ha
    show okT (x :: (r ++ b)) h h2
    unfold okT
    by_cases c : x < 20000
    · rw [if_pos c] at ha ⊢
      exact ⟨ha.1, okT_app r b _ h1 h2 ha.2 hb⟩
    · rw [if_neg c] at ha ⊢
      by_cases c2 : x = 20033
      · rw [if_pos c2] at ha ⊢
        exact ⟨ha.1, okT_app r b _ h1 h2 ha.2 hb⟩
      · rw [if_neg c2] at ha ⊢
        exact ⟨ha.1, okT_app r b _ h1 h2 ha.2 hb⟩
/-- a token of a sum or a condition -/
def tokP (x : Int32) : Prop := (∃ v, v < 10000 ∧ x = nI v) ∨ (∃ j, j < 6 ∧ x = nI (10000 + j)) ∨ x = 20033 ∨ x = 20038 ∨ x = 20042 ∨ x = 20043 ∨ x = 20045 ∨ x = 20047 ∨ x = 20060 ∨ x = 20061 ∨ x = 20062 ∨ x = 20124
def TY (P : Int32 → Prop) (n : Nat) (ts : List Int32) : Prop := (∀ lt : Nat → Int32, (∀ k, k < 6 → Pb (lt k)) → ∃ v, P v ∧ ∀ s : List Int32, s.length + n ≤ 32 → cRun lt ts s = v :: s ∧ rRun lt ts s = v :: s) ∧ (∀ h, h + n ≤ 32 → okT ts h (h + 1)) ∧ ∀ x ∈ ts, tokP x
/-- what goes on behind a value -/
def TYt (P : Int32 → Prop) (n : Nat) (ts : List Int32) : Prop := (∀ lt : Nat → Int32, (∀ k, k < 6 → Pb (lt k)) → ∀ v, P v → ∃ v', P v' ∧ ∀ s : List Int32, s.length + n + 1 ≤ 32 → cRun lt ts (v :: s) = v' :: s ∧ rRun lt ts (v :: s) = v' :: s) ∧ (∀ h, h + n + 1 ≤ 32 → okT ts (h + 1) (h + 1)) ∧ ∀ x ∈ ts, tokP x
/-- x joins two values -/
def opK (P Q : Int32 → Prop) (x : Int32) : Prop := 20000 ≤ x ∧ ¬ x = 20033 ∧ ¬ x < 20000 ∧ ¬ tcd x = 0 ∧ ¬ tcd x = 1 ∧ ¬ tcd x = 9 ∧ tokP x ∧ 10000 ≤ x ∧ ∀ l r, P l → P r → jnF (x - 20000) l r = wkF (tcd x) l r ∧ Q (jnF (x - 20000) l r)
theorem TY.mono {P : Int32 → Prop} {n m : Nat} {ts : List Int32} (h : TY P n ts) (hm : n ≤ m) : TY P m ts := ⟨fun lt hl => by
  obtain ⟨v, h1, h2⟩ := h.1 lt hl
  exact ⟨v, h1, fun s hs => h2 s (by omega)⟩, fun k hk => h.2.1 k (by omega), h.2.2⟩
theorem op_step {P Q : Int32 → Prop} {x : Int32} (ho : opK P Q x) (lt : Nat → Int32) {l r : Int32} (hl : P l) (hr : P r) {s : List Int32} (hs : s.length < 32) : cst lt x (r :: l :: s) = jnF (x - 20000) l r :: s ∧ rst lt x (r :: l :: s) = jnF (x - 20000) l r :: s := by
  obtain ⟨o1, o2, o3, o4, o5, o6, o7, o8, o9⟩ := ho
  have e := (o9 l r hl hr).1
  refine ⟨?_, ?_⟩
  · unfold cst
    rw [if_neg (Decidable.not_not.mpr o8), if_neg (Decidable.not_not.mpr o1), if_neg o2]
    show pshL s (jnF (x - 20000) l r) = _
    unfold pshL
    rw [if_pos hs]
  · unfold rst
    rw [if_neg o4, if_neg o5, if_neg o6, e]
    rfl
theorem ok_op {P Q : Int32 → Prop} {x : Int32} (ho : opK P Q x) {h : Nat} (hh : 2 ≤ h) : okT [x] h (h - 1) := by
  obtain ⟨o1, o2, o3, o4, o5, o6, o7, o8, o9⟩ := ho
  unfold okT
  rw [if_neg o3, if_neg o2]
  exact ⟨hh, rfl⟩
theorem ty_op {P Q : Int32 → Prop} {n : Nat} {a b : List Int32} {x : Int32} (ha : TY P n a) (hb : TY P n b) (ho : opK P Q x) (hn : 1 ≤ n) : TY Q (n + 1) (a ++ b ++ [x]) := by
  refine ⟨fun lt hl => ?_, fun h hh => ?_, fun y hy => ?_⟩
  · obtain ⟨v, h1, h2⟩ := ha.1 lt hl
    obtain ⟨w, h3, h4⟩ := hb.1 lt hl
    refine ⟨jnF (x - 20000) v w, (ho.2.2.2.2.2.2.2.2 v w h1 h3).2, fun s hs => ?_⟩
    obtain ⟨e1, e2⟩ := h2 s (by omega)
    obtain ⟨e3, e4⟩ := h4 (v :: s) (by simp only [List.length_cons]; omega)
    obtain ⟨e5, e6⟩ := op_step ho lt h1 h3 (s := s) (by omega)
    rw [cRun_app, cRun_app, rRun_app, rRun_app, e1, e2, e3, e4]
    exact ⟨e5, e6⟩
  · refine okT_app _ _ h (h + 1 + 1) _ (okT_app _ _ h (h + 1) _ (ha.2.1 h (by omega)) (hb.2.1 (h + 1) (by omega))) ?_
    exact ok_op ho (h := h + 1 + 1) (by omega)
  · rcases List.mem_append.mp hy with hy | hy
    · rcases List.mem_append.mp hy with hy | hy
      · exact ha.2.2 y hy
      · exact hb.2.2 y hy
    · rw [List.mem_singleton.mp hy]
      exact ho.2.2.2.2.2.2.1
theorem ty_nil (P : Int32 → Prop) (n : Nat) : TYt P n [] := ⟨fun lt hl v hv => ⟨v, hv, fun s hs => ⟨rfl, rfl⟩⟩, fun h hh => rfl, fun x hx => by cases hx⟩
theorem ty_more {P : Int32 → Prop} {n : Nat} {b c : List Int32} {x : Int32} (hb : TY P n b) (ho : opK P P x) (hc : TYt P n c) (hn : 1 ≤ n) : TYt P n (b ++ [x] ++ c) := by
  refine ⟨fun lt hl v hv => ?_, fun h hh => ?_, fun y hy => ?_⟩
  · obtain ⟨w, h3, h4⟩ := hb.1 lt hl
    obtain ⟨z, h5, h6⟩ := hc.1 lt hl (jnF (x - 20000) v w) (ho.2.2.2.2.2.2.2.2 v w hv h3).2
    refine ⟨z, h5, fun s hs => ?_⟩
    obtain ⟨e3, e4⟩ := h4 (v :: s) (by simp only [List.length_cons]; omega)
    obtain ⟨e5, e6⟩ := op_step ho lt hv h3 (s := s) (by omega)
    obtain ⟨e7, e8⟩ := h6 s hs
    rw [cRun_app, cRun_app, rRun_app, rRun_app, e3, e4]
    show cRun lt c (cst lt x (w :: v :: s)) = z :: s ∧ rRun lt c (rst lt x (w :: v :: s)) = z :: s
    rw [e5, e6]
    exact ⟨e7, e8⟩
  · refine okT_app _ _ (h + 1) (h + 1) _ (okT_app _ _ (h + 1) (h + 1 + 1) _ (hb.2.1 (h + 1) (by omega)) ?_) (hc.2.1 h hh)
    exact ok_op ho (h := h + 1 + 1) (by omega)
  · rcases List.mem_append.mp hy with hy | hy
    · rcases List.mem_append.mp hy with hy | hy
      · exact hb.2.2 y hy
      · rw [List.mem_singleton.mp hy]
        exact ho.2.2.2.2.2.2.1
    · exact hc.2.2 y hy
theorem ty_cat {P : Int32 → Prop} {n m : Nat} {a c : List Int32} (ha : TY P n a) (hc : TYt P m c) (hn : n ≤ m + 1) : TY P (m + 1) (a ++ c) := by
  refine ⟨fun lt hl => ?_, fun h hh => ?_, fun y hy => ?_⟩
  · obtain ⟨w, h3, h4⟩ := ha.1 lt hl
    obtain ⟨z, h5, h6⟩ := hc.1 lt hl w h3
    refine ⟨z, h5, fun s hs => ?_⟩
    obtain ⟨e3, e4⟩ := h4 s (by omega)
    obtain ⟨e7, e8⟩ := h6 s (by omega)
    rw [cRun_app, rRun_app, e3, e4]
    exact ⟨e7, e8⟩
  · exact okT_app _ _ h (h + 1) _ (ha.2.1 h (by omega)) (hc.2.1 h (by omega))
  · rcases List.mem_append.mp hy with hy | hy
    · exact ha.2.2 y hy
    · exact hc.2.2 y hy
/-- what r reads is so -/
def rdT (P : List Int32 → Prop) (r : Nat → PR) : Prop := ∀ a x, r a = .ok x → P x.2
theorem ty_tl {P : Int32 → Prop} {n : Nat} {row : Nat → Int32} {L : Nat} {sub : Nat → PR} {o1 o2 : Int32} (hs : rdT (TY P n) sub) (h1 : opK P P (20000 + o1)) (h2 : opK P P (20000 + o2)) (hn : 1 ≤ n) : ∀ m, rdT (TYt P n) (tlS row L sub o1 o2 m)
  | 0 => fun a x hx => by
    have hx : (.ok (a, []) : PR) = .ok x := hx
    cases hx
    exact ty_nil P n
  | m + 1 => fun a x hx => by
    by_cases c : pk row L a = o1 ∨ pk row L a = o2
    · have hx : bnd (bnd (sub (sk row L a + 1)) (emS (20000 + pk row L a))) (tlS row L sub o1 o2 m) = .ok x := (if_pos c).symm.trans hx
      obtain ⟨y, z, e1, e2, rfl⟩ := bnd_ok hx
      obtain ⟨y1, y2, e3, e4, rfl⟩ := bnd_ok e1
      rw [em_ok e4]
      have ho : opK P P (20000 + pk row L a) := by
        rcases c with c | c
        · rw [c]; exact h1
        · rw [c]; exact h2
      exact ty_more (hs _ _ e3) ho (ty_tl hs h1 h2 hn m _ _ e2) hn
    · have hx : (.ok (sk row L a, []) : PR) = .ok x := (if_neg c).symm.trans hx
      cases hx
      exact ty_nil P n
theorem ty_lp {P : Int32 → Prop} {n : Nat} {row : Nat → Int32} {L : Nat} {sub : Nat → PR} {o1 o2 : Int32} (hs : rdT (TY P n) sub) (h1 : opK P P (20000 + o1)) (h2 : opK P P (20000 + o2)) (hn : 1 ≤ n) : rdT (TY P (n + 1)) (lpS row L sub o1 o2) := fun a x hx => by
  obtain ⟨y, z, e1, e2, rfl⟩ := bnd_ok hx
  exact ty_cat (hs _ _ e1) (ty_tl hs h1 h2 hn 241 _ _ e2) (by omega)
theorem opk {P Q : Int32 → Prop} {x : Int32} (h : (20000 ≤ x ∧ ¬ x = 20033 ∧ ¬ x < 20000 ∧ ¬ tcd x = 0 ∧ ¬ tcd x = 1 ∧ ¬ tcd x = 9) ∧ 10000 ≤ x) (ht : tokP x) (hj : ∀ l r, P l → P r → jnF (x - 20000) l r = wkF (tcd x) l r ∧ Q (jnF (x - 20000) l r)) : opK P Q x := ⟨h.1.1, h.1.2.1, h.1.2.2.1, h.1.2.2.2.1, h.1.2.2.2.2.1, h.1.2.2.2.2.2, ht, h.2, hj⟩
theorem opk_42 : opK Pb Pb (20000 + 42) := opk (by decide) (by simp [tokP]) (fun l r _ _ => jw_mul l r)
theorem opk_47 : opK Pb Pb (20000 + 47) := opk (by decide) (by simp [tokP]) (fun l r hl _ => jw_div hl)
theorem opk_43 : opK Pb Pb (20000 + 43) := opk (by decide) (by simp [tokP]) (fun l r hl hr => jw_add hl hr)
theorem opk_45 : opK Pb Pb (20000 + 45) := opk (by decide) (by simp [tokP]) (fun l r hl hr => jw_sub hl hr)
theorem opk_61 : opK Pb P01 (20000 + 61) := opk (by decide) (by simp [tokP]) (fun l r _ _ => jw_eq l r)
theorem opk_60 : opK Pb P01 (20000 + 60) := opk (by decide) (by simp [tokP]) (fun l r _ _ => jw_lt l r)
theorem opk_62 : opK Pb P01 (20000 + 62) := opk (by decide) (by simp [tokP]) (fun l r _ _ => jw_gt l r)
theorem opk_38 : opK P01 P01 (20000 + 38) := opk (by decide) (by simp [tokP]) (fun l r hl hr => jw_and hl hr)
theorem opk_124 : opK P01 P01 (20000 + 124) := opk (by decide) (by simp [tokP]) (fun l r hl hr => jw_or hl hr)
theorem opk_rl {c : Int32} (h : isRl c) : opK Pb P01 (20000 + c) := by
  rcases h with rfl | rfl | rfl
  · exact opk_61
  · exact opk_60
  · exact opk_62
theorem ty_1 {P : Int32 → Prop} {x : Int32} (hx : x < 20000) (ht : tokP x) (h : ∀ lt : Nat → Int32, (∀ k, k < 6 → Pb (lt k)) → ∃ v, P v ∧ ∀ s : List Int32, s.length + 1 ≤ 32 → cst lt x s = v :: s ∧ rst lt x s = v :: s) : TY P 1 [x] := by
  refine ⟨fun lt hl => h lt hl, fun k hk => ?_, fun y hy => ?_⟩
  · unfold okT
    rw [if_pos hx]
    exact ⟨by omega, rfl⟩
  · rw [List.mem_singleton.mp hy]
    exact ht
theorem Pb_n {v : Nat} (h : v < 10000) : Pb (nI v) := by
  unfold Pb
  have : (nI v).toInt = v := by rw [clamp_int (nI_pos (by omega)), nI_clamp (by omega)]
  omega
theorem ty_n {v : Nat} (h : v < 10000) : TY Pb 1 [nI v] := by
  have h1 : nI v < 10000 := nI_lt (b := 10000) h (by decide)
  have h1' : ¬ (10000 : Int32) ≤ nI v := Int32.not_le.mpr h1
  have h2 : nI v < 20000 := nI_lt (b := 20000) (by omega) (by decide)
  refine ty_1 h2 (Or.inl ⟨v, h, rfl⟩) (fun lt hl => ⟨nI v, Pb_n h, fun s hs => ⟨?_, ?_⟩⟩)
  · unfold cst pshL
    rw [if_pos h1', if_pos (by omega)]
  · unfold rst
    rw [(tcd_num h).1, if_pos rfl, (tcd_num h).2]
theorem ty_l {j : Nat} (h : j < 6) : TY Pb 1 [10000 + nI j] := by
  have e : (10000 : Int32) + nI j = nI (10000 + j) := by rw [show (10000 : Int32) = nI 10000 from rfl, nI_add]
  have h1 : ∀ j, j < 6 → (10000 : Int32) ≤ 10000 + nI j ∧ 10000 + nI j < 20000 ∧ ¬ (20000 : Int32) ≤ 10000 + nI j ∧ tcd (10000 + nI j) = 1 ∧ tvl (10000 + nI j) = nI j ∧ (10000 + nI j - 10000).toNatClampNeg = j := by decide
  obtain ⟨a1, a2, a3, a4, a5, a6⟩ := h1 j h
  refine ty_1 a2 (Or.inr (Or.inl ⟨j, h, e⟩)) (fun lt hl => ⟨lt j, hl j h, fun s hs => ⟨?_, ?_⟩⟩)
  · unfold cst pshL
    rw [if_neg (Decidable.not_not.mpr a1), if_pos a3, a6, if_pos (by omega)]
  · unfold rst
    rw [a4, a5, if_neg (by decide), if_pos rfl, nI_clamp (by omega)]
theorem ty_at {row lt : Nat → Int32} {L n : Nat} {sub : Option (Nat → PR)} (hs : ∀ f, sub = some f → rdT (TY Pb n) f) (hn : 1 ≤ n) : rdT (TY Pb n) (atS row lt L sub) := fun a x hx => by
  unfold atS at hx
  by_cases c : ¬ itm lt 6 (pk row L a) < 0
  · rw [if_pos c] at hx
    cases hx
    rcases itm_rng lt 6 (pk row L a) with e | ⟨j, hj, e⟩
    · exact absurd (by rw [e]; decide) c
    · show TY Pb n [10000 + itm lt 6 (pk row L a)]
      rw [e]
      exact (ty_l hj).mono hn
  · rw [if_neg c] at hx
    by_cases c2 : pk row L a = 91
    · rw [if_pos c2] at hx
      cases sub with
      | none => cases hx
      | some f =>
        have hx : bnd (f (sk row L a + 1)) (wantS row L 93) = .ok x := hx
        obtain ⟨y, z, e1, e2, rfl⟩ := bnd_ok hx
        rw [(want_ok e2).2]
        show TY Pb n (y.2 ++ [])
        rw [List.append_nil]
        exact hs f rfl _ _ e1
    · rw [if_neg c2] at hx
      unfold numS at hx
      by_cases c3 : pk row L a < 48 ∨ ¬ pk row L a ≤ 57
      · rw [if_pos c3] at hx; cases hx
      · have hlt := pkin (row := row) (L := L) (a := a) rfl (fun z => c3 (Or.inl (by rw [z]; decide)))
        rw [if_neg c3] at hx
        by_cases c4 : (nmB row 4 (L - sk row L a) (sk row L a) 0 0).2.2 = true
        · rw [if_pos c4] at hx; cases hx
        · rw [if_neg c4] at hx
          cases hx
          obtain ⟨-, -, h3⟩ := nm4 row (L := L) 4 0 (sk row L a) 0 (by omega) (by omega) (by decide)
          obtain ⟨v, h4, h5⟩ := h3 (by rw [nI_0]; simpa using c4)
          show TY Pb n [(nmB row 4 (L - sk row L a) (sk row L a) (nI 0) 0).1]
          rw [h5]
          exact (ty_n h4).mono hn
theorem ty_sm {row lt : Nat → Int32} {L : Nat} : ∀ k, rdT (TY Pb (3 + 2 * k)) (smS row lt L k)
  | 0 => by
    show rdT (TY Pb (1 + 1 + 1)) (lpS row L (lpS row L (atS row lt L none) 42 47) 43 45)
    exact ty_lp (ty_lp (ty_at (fun f h => by cases h) (by omega)) opk_42 opk_47 (by omega)) opk_43 opk_45 (by omega)
  | k + 1 => by
    show rdT (TY Pb (3 + 2 * k + 1 + 1)) (lpS row L (lpS row L (atS row lt L (some (smS row lt L k))) 42 47) 43 45)
    exact ty_lp (ty_lp (ty_at (fun f h => by cases h; exact ty_sm k) (by omega)) opk_42 opk_47 (by omega)) opk_43 opk_45 (by omega)
theorem ty_rl {row lt : Nat → Int32} {L k a : Nat} {x : Nat × List Int32} (h : rlS row lt L k a = .ok x) : ∃ B c, TY Pb (3 + 2 * k) B ∧ isRl c ∧ x.2 = B ++ [20000 + c] := by
  by_cases c : isRl (pk row L a)
  · rw [rl_t c] at h
    obtain ⟨y, z, e1, e2, rfl⟩ := bnd_ok h
    rw [em_ok e2]
    exact ⟨y.2, _, ty_sm k _ _ e1, c, rfl⟩
  · rw [rl_f c] at h; cases h
theorem ty_cm {A B : List Int32} {n : Nat} {c : Int32} (hA : TY Pb n A) (hB : TY Pb n B) (hc : isRl c) (hn : 1 ≤ n) : TY P01 (n + 1) (A ++ (B ++ [20000 + c])) := by
  rw [← List.append_assoc]
  exact ty_op hA hB (opk_rl hc) hn
theorem ty_not {n : Nat} {A : List Int32} (h : TY P01 n A) (hn : 1 ≤ n) : TY P01 n (A ++ [20033]) := by
  refine ⟨fun lt hl => ?_, fun k hk => ?_, fun y hy => ?_⟩
  · obtain ⟨v, h1, h2⟩ := h.1 lt hl
    refine ⟨1 - v, by unfold P01; rcases h1 with rfl | rfl <;> decide, fun s hs => ?_⟩
    obtain ⟨e1, e2⟩ := h2 s hs
    rw [cRun_app, rRun_app, e1, e2]
    refine ⟨?_, ?_⟩
    · show cst lt 20033 (v :: s) = _
      unfold cst
      rw [if_neg (by decide), if_neg (by decide), if_pos rfl]
      show pshL s (1 - v) = _
      unfold pshL
      rw [if_pos (by omega)]
    · rfl
  · exact okT_app _ _ k (k + 1) _ (h.2.1 k hk) (by
      unfold okT
      rw [if_neg (by decide), if_pos rfl]
      exact ⟨by omega, rfl⟩)
  · rcases List.mem_append.mp hy with hy | hy
    · exact h.2.2 y hy
    · rw [List.mem_singleton.mp hy]
      simp [tokP]
theorem ty_unB {row lt : Nat → Int32} {L k n : Nat} {un cd : Option (Nat → PR)} (hn : 4 + 2 * k ≤ n) (hu : ∀ f, un = some f → rdT (TY P01 n) f) (hc : ∀ f, cd = some f → rdT (TY P01 n) f) : rdT (TY P01 n) (unB row lt L k un cd) := fun a x hx => by
  unfold unB at hx
  by_cases c1 : pk row L a = 33
  · rw [if_pos c1] at hx
    cases un with
    | none => cases hx
    | some f =>
      have hx : bnd (f (sk row L a + 1)) (emS 20033) = .ok x := hx
      obtain ⟨y, z, e1, e2, rfl⟩ := bnd_ok hx
      rw [em_ok e2]
      exact ty_not (hu f rfl _ _ e1) (by omega)
  · rw [if_neg c1] at hx
    by_cases c2 : pk row L a = 40
    · rw [if_pos c2] at hx
      cases cd with
      | none => cases hx
      | some f =>
        have hx : bnd (f (sk row L a + 1)) (wantS row L 41) = .ok x := hx
        obtain ⟨y, z, e1, e2, rfl⟩ := bnd_ok hx
        rw [(want_ok e2).2]
        show TY P01 n (y.2 ++ [])
        rw [List.append_nil]
        exact hc f rfl _ _ e1
    · rw [if_neg c2] at hx
      have hx : bnd (smS row lt L k a) (rlS row lt L k) = .ok x := hx
      obtain ⟨y, z, e1, e2, rfl⟩ := bnd_ok hx
      obtain ⟨B, c, hB, hc, e⟩ := ty_rl e2
      show TY P01 n (y.2 ++ z.2)
      rw [e]
      exact (ty_cm (ty_sm k _ _ e1) hB hc (by omega)).mono (by omega)
theorem ty_cd {row : Nat → Int32} {L n : Nat} {un : Nat → PR} (h : rdT (TY P01 n) un) (hn : 1 ≤ n) : rdT (TY P01 (n + 1 + 1)) (cdB row L un) := ty_lp (ty_lp h opk_38 opk_38 hn) opk_124 opk_124 (by omega)
theorem ty_un {row lt : Nat → Int32} {L : Nat} : ∀ k, rdT (TY P01 (4 + 2 * k)) (unS' row lt L k)
  | 0 => ty_unB (by omega) (fun f h => by cases h) (fun f h => by cases h)
  | k + 1 => ty_unB (by omega) (fun f h => by
      cases h
      exact fun a x hx => (ty_un k a x hx).mono (by omega)) (fun f h => by
      cases h
      exact fun a x hx => (ty_cd (ty_un k) (by omega) a x hx).mono (by omega))
theorem ty_ne {P : Int32 → Prop} {n : Nat} {ts : List Int32} (hn : n ≤ 32) (h : TY P n ts) : ¬ ts = [] := by
  rintro rfl
  have : (0 : Nat) = 0 + 1 := h.2.1 0 (by omega)
  omega
/-! clauses -/
abbrev CLs : Type := List (List Int32 × List Int32)
/-- a clause's cells as the class has them; no condition is [] -/
def clT (c : List Int32 × List Int32) : List Int32 := if c.1 = [] then c.2 ++ [20059] else c.1 ++ [20063] ++ c.2 ++ [20059]
theorem clT_n {c : List Int32 × List Int32} (h : c.1 = []) : clT c = c.2 ++ [20059] := if_pos h
theorem clT_y {c : List Int32 × List Int32} (h : ¬ c.1 = []) : clT c = c.1 ++ [20063] ++ c.2 ++ [20059] := if_neg h
def clF (c : List Int32 × List Int32) : List Int32 := c.1 ++ c.2
def clOK (c : List Int32 × List Int32) : Prop := (c.1 = [] ∨ TY P01 18 c.1) ∧ TY Pb 15 c.2
/-- what the clauses are worth, the reference's way -/
def wV (lt : Nat → Int32) : CLs → Int32
  | [] => 0
  | c :: r => if c.1 = [] ∨ ¬ popV (rRun lt c.1 []) = 0 then popV (rRun lt c.2 []) else wV lt r
def evL (lt : Nat → Int32) : List Int32 → Bool → List Int32 → Int32
  | [], _, _ => 0
  | x :: r, true, s => evL lt r (decide (¬ x = 20059)) s
  | x :: r, false, s => if x = 20063 then evL lt r (decide (popV s = 0)) (popS s) else if x = 20059 then popV s else evL lt r false (cst lt x s)
theorem evI_L (lt row : Nat → Int32) : ∀ (ts : List Int32) (j : Nat) (sk : Bool) (s : List Int32), (∀ i, i < ts.length → row (j + i) = ts.getD i 0) → evI lt row ts.length j sk s = evL lt ts sk s
  | [], _, _, _, _ => rfl
  | x :: r, j, true, s, h => by
    have h0 : row j = x := h 0 (by simp)
    have ih := evI_L lt row r (j + 1) (decide (¬ x = 20059)) s (fun i hi => by
      have := h (i + 1) (by simp only [List.length_cons]; omega)
      rw [show j + 1 + i = j + (i + 1) by omega, this]
      rfl)
    show evI lt row r.length (j + 1) (decide (¬ row j = 20059)) s = evL lt r (decide (¬ x = 20059)) s
    rw [h0]
    exact ih
  | x :: r, j, false, s, h => by
    have h0 : row j = x := h 0 (by simp)
    have ih := fun sk s => evI_L lt row r (j + 1) sk s (fun i hi => by
      have := h (i + 1) (by simp only [List.length_cons]; omega)
      rw [show j + 1 + i = j + (i + 1) by omega, this]
      rfl)
    show (if ¬ 10000 ≤ row j then evI lt row r.length (j + 1) false (pshL s (row j))
    else if ¬ 20000 ≤ row j then evI lt row r.length (j + 1) false (pshL s (lt (row j - 10000).toNatClampNeg))
    else if row j = 20063 then evI lt row r.length (j + 1) (decide (popV s = 0)) (popS s)
    else if row j = 20059 then popV s
    else if row j = 20033 then evI lt row r.length (j + 1) false (pshL (popS s) (1 - popV s))
    else evI lt row r.length (j + 1) false (pshL (popS (popS s)) (jnF (row j - 20000) (popV (popS s)) (popV s)))) = (if x = 20063 then evL lt r (decide (popV s = 0)) (popS s) else if x = 20059 then popV s else evL lt r false (cst lt x s))
    rw [h0]
    simp only [ih]
    unfold cst
    by_cases c1 : ¬ 10000 ≤ x
    · have n1 : ¬ x = 20063 := fun z => c1 (by rw [z]; decide)
      have n2 : ¬ x = 20059 := fun z => c1 (by rw [z]; decide)
      rw [if_pos c1, if_neg n1, if_neg n2, if_pos c1]
    · rw [if_neg c1, if_neg c1]
      by_cases c2 : ¬ 20000 ≤ x
      · have n1 : ¬ x = 20063 := fun z => c2 (by rw [z]; decide)
        have n2 : ¬ x = 20059 := fun z => c2 (by rw [z]; decide)
        rw [if_pos c2, if_neg n1, if_neg n2, if_pos c2]
      · rw [if_neg c2, if_neg c2]
        by_cases c3 : x = 20063
        · rw [if_pos c3, if_pos c3]
        · rw [if_neg c3, if_neg c3]
          by_cases c4 : x = 20059
          · rw [if_pos c4, if_pos c4]
          · rw [if_neg c4, if_neg c4]
            by_cases c5 : x = 20033
            · rw [if_pos c5, if_pos c5]
            · rw [if_neg c5, if_neg c5]
theorem tok_ne {x : Int32} (h : tokP x) : ¬ x = 20063 ∧ ¬ x = 20059 := by
  rcases h with ⟨v, hv, rfl⟩ | ⟨j, hj, rfl⟩ | rfl | rfl | rfl | rfl | rfl | rfl | rfl | rfl | rfl | rfl
  · rw [show (20063 : Int32) = nI 20063 from rfl, show (20059 : Int32) = nI 20059 from rfl, nI_eq (by omega) (by decide), nI_eq (by omega) (by decide)]
    omega
  · rw [show (20063 : Int32) = nI 20063 from rfl, show (20059 : Int32) = nI 20059 from rfl, nI_eq (by omega) (by decide), nI_eq (by omega) (by decide)]
    omega
  all_goals decide
theorem evL_app (lt : Nat → Int32) : ∀ (ts rest s : List Int32), (∀ x ∈ ts, tokP x) → evL lt (ts ++ rest) false s = evL lt rest false (cRun lt ts s)
  | [], _, _, _ => rfl
  | x :: r, rest, s, h => by
    obtain ⟨n1, n2⟩ := tok_ne (h x List.mem_cons_self)
    show (if x = 20063 then evL lt (r ++ rest) (decide (popV s = 0)) (popS s) else if x = 20059 then popV s else evL lt (r ++ rest) false (cst lt x s)) = _
    rw [if_neg n1, if_neg n2]
    exact evL_app lt r rest (cst lt x s) (fun y hy => h y (List.mem_cons_of_mem _ hy))
theorem evL_skip (lt : Nat → Int32) : ∀ (ts rest s : List Int32), (∀ x ∈ ts, tokP x) → evL lt (ts ++ 20059 :: rest) true s = evL lt rest false s
  | [], rest, s, _ => rfl
  | x :: r, rest, s, h => by
    obtain ⟨n1, n2⟩ := tok_ne (h x List.mem_cons_self)
    show evL lt (r ++ 20059 :: rest) (decide (¬ x = 20059)) s = _
    rw [show decide (¬ x = 20059) = true from decide_eq_true n2]
    exact evL_skip lt r rest s (fun y hy => h y (List.mem_cons_of_mem _ hy))
theorem ev_w (lt : Nat → Int32) (hl : ∀ k, k < 6 → Pb (lt k)) : ∀ cs : CLs, (∀ c ∈ cs, clOK c) → evL lt (cs.flatMap clT) false [] = wV lt cs
  | [], _ => rfl
  | c :: r, h => by
    obtain ⟨h1, h2⟩ := h c List.mem_cons_self
    have ih := ev_w lt hl r (fun y hy => h y (List.mem_cons_of_mem _ hy))
    obtain ⟨v, -, hv⟩ := h2.1 lt hl
    obtain ⟨v1, v2⟩ := hv [] (by simp)
    rw [List.flatMap_cons]
    show evL lt (clT c ++ r.flatMap clT) false [] = if c.1 = [] ∨ ¬ popV (rRun lt c.1 []) = 0 then popV (rRun lt c.2 []) else wV lt r
    by_cases e : c.1 = []
    · rw [clT_n e, if_pos (Or.inl e), List.append_assoc, evL_app lt _ _ _ h2.2.2, v1, v2]
      rfl
    · rw [clT_y e]
      have hc := h1.resolve_left e
      obtain ⟨u, -, hu⟩ := hc.1 lt hl
      obtain ⟨u1, u2⟩ := hu [] (by simp)
      have e3 : c.1 ++ [20063] ++ c.2 ++ [20059] ++ r.flatMap clT = c.1 ++ (20063 :: (c.2 ++ (20059 :: r.flatMap clT))) := by simp
      rw [e3, evL_app lt _ _ _ hc.2.2, u1, u2]
      have e4 : evL lt (20063 :: (c.2 ++ (20059 :: r.flatMap clT))) false [u] = evL lt (c.2 ++ (20059 :: r.flatMap clT)) (decide (u = 0)) [] := rfl
      rw [e4]
      by_cases z : u = 0
      · rw [show decide (u = 0) = true from decide_eq_true z, evL_skip lt _ _ _ h2.2.2, ih, if_neg (by
          rintro (q | q)
          · exact e q
          · exact q z)]
      · rw [show decide (u = 0) = false from decide_eq_false z, evL_app lt _ _ _ h2.2.2, v1, v2, if_pos (show c.1 = [] ∨ ¬ popV [u] = 0 from Or.inr z)]
        rfl
