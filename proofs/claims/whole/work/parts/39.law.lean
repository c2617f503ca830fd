/-! ===== the laws' grammar: what a text says (place and cells, or where the first fault is) ===== -/
abbrev PR : Type := Except Nat (Nat × List Int32)
def bnd (r : PR) (f : Nat → PR) : PR := match r with
  | .error e => .error e
  | .ok x => match f x.1 with
    | .error e => .error e
    | .ok y => .ok (y.1, x.2 ++ y.2)
theorem bnd_e (e : Nat) (f : Nat → PR) : bnd (.error e) f = .error e := rfl
theorem bnd_oe {x : Nat × List Int32} {f : Nat → PR} {e : Nat} (h : f x.1 = .error e) : bnd (.ok x) f = .error e := by
  unfold bnd
  simp only [h]
theorem bnd_oo {x y : Nat × List Int32} {f : Nat → PR} (h : f x.1 = .ok y) : bnd (.ok x) f = .ok (y.1, x.2 ++ y.2) := by
  unfold bnd
  simp only [h]
def pk (row : Nat → Int32) (L a : Nat) : Int32 := if sk row L a < L then row (sk row L a) else -1
theorem skB_stop (row : Nat → Int32) (L : Nat) : ∀ n a, a + n = L → skB row L n a < L → row (skB row L n a) ≠ 32
  | 0, a, h, hl => absurd hl (by unfold skB; omega)
  | n + 1, a, h, hl => by
    unfold skB at *
    by_cases c : row a = 32
    · rw [if_pos c] at hl ⊢
      exact skB_stop row L n (a + 1) (by omega) hl
    · rw [if_neg c]
      exact c
theorem sk_sk {row : Nat → Int32} {L a : Nat} (h : a ≤ L) : sk row L (sk row L a) = sk row L a := by
  have h1 := sk_le row h
  have h2 := skB_stop row L (L - a) a (by omega)
  show skB row L (L - sk row L a) (sk row L a) = sk row L a
  cases hn : L - sk row L a with
  | zero => rfl
  | succ n =>
    unfold skB
    exact if_neg (h2 (by show sk row L a < L; omega))
theorem pk_sk {row : Nat → Int32} {L a : Nat} (h : a ≤ L) : pk row L (sk row L a) = pk row L a := by
  unfold pk
  rw [sk_sk h]
def wantS (row : Nat → Int32) (L : Nat) (c : Int32) (a : Nat) : PR := if pk row L a = c then .ok (sk row L a + 1, []) else .error (sk row L a)
def emS (c : Int32) (a : Nat) : PR := .ok (a, [c])
def tlS (row : Nat → Int32) (L : Nat) (sub : Nat → PR) (o1 o2 : Int32) : Nat → Nat → PR
  | 0, a => .ok (a, [])
  | n + 1, a => if pk row L a = o1 ∨ pk row L a = o2 then bnd (bnd (sub (sk row L a + 1)) (emS (20000 + pk row L a))) (tlS row L sub o1 o2 n) else .ok (sk row L a, [])
def lpS (row : Nat → Int32) (L : Nat) (sub : Nat → PR) (o1 o2 : Int32) (a : Nat) : PR := bnd (sub a) (tlS row L sub o1 o2 241)
def numS (row : Nat → Int32) (L a : Nat) : PR :=
  if pk row L a < 48 ∨ ¬ pk row L a ≤ 57 then .error (sk row L a)
  else if (nmB row 4 (L - sk row L a) (sk row L a) 0 0).2.2 = true then .error (nmB row 4 (L - sk row L a) (sk row L a) 0 0).2.1
  else .ok ((nmB row 4 (L - sk row L a) (sk row L a) 0 0).2.1, [(nmB row 4 (L - sk row L a) (sk row L a) 0 0).1])
def atS (row lt : Nat → Int32) (L : Nat) (sub : Option (Nat → PR)) (a : Nat) : PR :=
  if ¬ itm lt 6 (pk row L a) < 0 then .ok (sk row L a + 1, [10000 + itm lt 6 (pk row L a)])
  else if pk row L a = 91 then (match sub with
    | none => .error (sk row L a)
    | some f => bnd (f (sk row L a + 1)) (wantS row L 93))
  else numS row L a
def smS (row lt : Nat → Int32) (L : Nat) : Nat → Nat → PR
  | 0 => lpS row L (lpS row L (atS row lt L none) 42 47) 43 45
  | k + 1 => lpS row L (lpS row L (atS row lt L (some (smS row lt L k))) 42 47) 43 45
def sbS (row lt : Nat → Int32) (L : Nat) : Nat → Option (Nat → PR)
  | 0 => none
  | k + 1 => some (smS row lt L k)
theorem smS_eq (row lt : Nat → Int32) (L k : Nat) : smS row lt L k = lpS row L (lpS row L (atS row lt L (sbS row lt L k)) 42 47) 43 45 := by
  cases k <;> rfl
def isRl (c : Int32) : Prop := c = 61 ∨ c = 60 ∨ c = 62
def rlS (row lt : Nat → Int32) (L k a : Nat) : PR := @ite PR (isRl (pk row L a)) (by unfold isRl; infer_instance) (bnd (smS row lt L k (sk row L a + 1)) (emS (20000 + pk row L a))) (.error (sk row L a))
def cmS (row lt : Nat → Int32) (L k a : Nat) : PR := bnd (smS row lt L k a) (rlS row lt L k)
def unB (row lt : Nat → Int32) (L k : Nat) (un : Option (Nat → PR)) (cd : Option (Nat → PR)) (a : Nat) : PR :=
  if pk row L a = 33 then (match un with
    | none => .error (sk row L a)
    | some f => bnd (f (sk row L a + 1)) (emS 20033))
  else if pk row L a = 40 then (match cd with
    | none => .error (sk row L a)
    | some f => bnd (f (sk row L a + 1)) (wantS row L 41))
  else cmS row lt L k a
def cdB (row : Nat → Int32) (L : Nat) (un : Nat → PR) : Nat → PR := lpS row L (lpS row L un 38 38) 124 124
def unS' (row lt : Nat → Int32) (L : Nat) : Nat → Nat → PR
  | 0 => unB row lt L 0 none none
  | k + 1 => unB row lt L (k + 1) (some (unS' row lt L k)) (some (cdB row L (unS' row lt L k)))
def cnS (row lt : Nat → Int32) (L k : Nat) : Nat → PR := cdB row L (unS' row lt L k)
def cuO (row lt : Nat → Int32) (L : Nat) : Nat → Option (Nat → PR)
  | 0 => none
  | k + 1 => some (unS' row lt L k)
def ccO (row lt : Nat → Int32) (L : Nat) : Nat → Option (Nat → PR)
  | 0 => none
  | k + 1 => some (cnS row lt L k)
theorem unS_eq (row lt : Nat → Int32) (L k : Nat) : unS' row lt L k = unB row lt L k (cuO row lt L k) (ccO row lt L k) := by
  cases k <;> rfl
/-- a clause's condition whose first sum has been read -/
def c1S (row lt : Nat → Int32) (L : Nat) (a : Nat) : PR := bnd (bnd (rlS row lt L 6 a) (tlS row L (unS' row lt L 6) 38 38 241)) (tlS row L (lpS row L (unS' row lt L 6) 38 38) 124 124 241)
/-- behind a condition -/
def c2S (row lt : Nat → Int32) (L : Nat) (a : Nat) : PR := bnd (bnd (wantS row L 63 a) (emS 20063)) (smS row lt L 6)
def cbS (row lt : Nat → Int32) (L : Nat) (a : Nat) : PR :=
  if pk row L a = 33 ∨ pk row L a = 40 then bnd (cnS row lt L 6 (sk row L a)) (c2S row lt L)
  else bnd (smS row lt L 6 (sk row L a)) (fun a1 => @ite PR (isRl (pk row L a1)) (by unfold isRl; infer_instance) (bnd (c1S row lt L (sk row L a1)) (c2S row lt L)) (.ok (sk row L a1, [])))
def clS (row lt : Nat → Int32) (L : Nat) (a : Nat) : PR := bnd (bnd (bnd (wantS row L 121 a) (wantS row L 58)) (cbS row lt L)) (emS 20059)
/-- all clauses -/
def lwS (row lt : Nat → Int32) (L : Nat) : Nat → Nat → PR
  | 0, a => .ok (a, [])
  | n + 1, a => bnd (clS row lt L a) (fun a1 => if pk row L a1 = 59 then lwS row lt L n (sk row L a1 + 1) else .ok (sk row L a1, []))
/-! what a piece of reading leaves, by what the grammar says of it -/
def apR (row : Nat → Int32) (cl : Nat) : List Int32 → Nat → Int32
  | [] => row
  | v :: t => apR (upd row cl v) (cl + 1) t
theorem apR_app (t t2 : List Int32) : ∀ (row : Nat → Int32) (cl : Nat), apR row cl (t ++ t2) = apR (apR row cl t) (cl + t.length) t2 := by
  induction t with
  | nil => intro row cl; rfl
  | cons v t ih =>
    intro row cl
    show apR (upd row cl v) (cl + 1) (t ++ t2) = apR (apR (upd row cl v) (cl + 1) t) (cl + (t.length + 1)) t2
    rw [ih, show cl + 1 + t.length = cl + (t.length + 1) by omega]
def LR (L : Nat) (r : PR) (F : Int32) (cl : Nat) (row : Nat → Int32) (a' : Nat) (F' : Int32) (cl' : Nat) (row' : Nat → Int32) : Prop :=
  a' ≤ L ∧ cl' ≤ 241 ∧ (F ≠ -1 → F' = F) ∧ (F = -1 → match r with
    | .error p => p ≤ 240 ∧ F' = nI p
    | .ok x => F' = -1 ∧ a' = x.1 ∧ (cl + x.2.length ≤ 241 → cl' = cl + x.2.length ∧ row' = apR row cl x.2))
theorem LR.stay {L : Nat} {r : PR} {F : Int32} {cl : Nat} {row : Nat → Int32} {a' : Nat} {cl' : Nat} {row' : Nat → Int32} (hF : F ≠ -1) (ha : a' ≤ L) (hc : cl' ≤ 241) : LR L r F cl row a' F cl' row' := ⟨ha, hc, fun _ => rfl, fun q => absurd q hF⟩
theorem LR.err {L : Nat} {p : Nat} {cl : Nat} {row : Nat → Int32} {a' : Nat} {cl' : Nat} {row' : Nat → Int32} (hp : p ≤ 240) (ha : a' ≤ L) (hc : cl' ≤ 241) : LR L (.error p) (-1) cl row a' (nI p) cl' row' := ⟨ha, hc, fun q => absurd rfl q, fun _ => ⟨hp, rfl⟩⟩
theorem LR.nil {L : Nat} {F : Int32} {cl : Nat} {row : Nat → Int32} {a' : Nat} (ha : a' ≤ L) (hc : cl ≤ 241) : LR L (.ok (a', [])) F cl row a' F cl row := ⟨ha, hc, fun _ => rfl, fun q => ⟨q, rfl, fun _ => ⟨rfl, rfl⟩⟩⟩
def emC (cl : Nat) : Nat := if cl < 241 then cl + 1 else cl
def emR (row : Nat → Int32) (cl : Nat) (v : Int32) : Nat → Int32 := if cl < 241 then upd row cl v else row
theorem emC_le {cl : Nat} (h : cl ≤ 241) : emC cl ≤ 241 := by
  unfold emC
  split <;> omega
theorem LR.emit {L : Nat} {F : Int32} {cl : Nat} {row : Nat → Int32} {a : Nat} {v : Int32} (ha : a ≤ L) (hc : cl ≤ 241) : LR L (emS v a) F cl row a F (emC cl) (emR row cl v) := by
  refine ⟨ha, emC_le hc, fun _ => rfl, fun q => ⟨q, rfl, fun hl => ?_⟩⟩
  have hl : cl + 1 ≤ 241 := hl
  unfold emC emR
  rw [if_pos (by omega), if_pos (by omega)]
  exact ⟨rfl, rfl⟩
theorem LR.seq {L : Nat} {r : PR} {f : Nat → PR} {F F1 F2 : Int32} {cl cl1 cl2 : Nat} {row row1 row2 : Nat → Int32} {a1 a2 : Nat} (h : LR L r F cl row a1 F1 cl1 row1) (h2 : LR L (f a1) F1 cl1 row1 a2 F2 cl2 row2) : LR L (bnd r f) F cl row a2 F2 cl2 row2 := by
  obtain ⟨-, -, h3, h4⟩ := h
  obtain ⟨k1, k2, k3, k4⟩ := h2
  refine ⟨k1, k2, fun q => ?_, fun q => ?_⟩
  · have e := h3 q
    subst e
    exact k3 q
  · have g := h4 q
    cases r with
    | error p =>
      rw [bnd_e]
      obtain ⟨g1, g2⟩ := g
      refine ⟨g1, ?_⟩
      have hn : F1 ≠ -1 := by
        rw [g2]
        exact nI_m1 (by omega)
      rw [k3 hn, g2]
    | ok x =>
      obtain ⟨g1, rfl, g3⟩ := g
      have w := k4 g1
      cases hx : f x.1 with
      | error p =>
        rw [hx] at w
        rw [bnd_oe hx]
        exact w
      | ok y =>
        rw [hx] at w
        obtain ⟨w1, w2, w3⟩ := w
        rw [bnd_oo hx]
        refine ⟨w1, w2, fun hl => ?_⟩
        simp only [List.length_append] at hl
        obtain ⟨e1, e2⟩ := g3 (by omega)
        subst e1 e2
        obtain ⟨e3, e4⟩ := w3 (by omega)
        subst e3 e4
        exact ⟨by simp only [List.length_append]; omega, (apR_app _ _ _ _).symm⟩
/-- the fault of a law's text -/
def lfS (row lt : Nat → Int32) (L : Nat) : Int32 := match lwS row lt L 241 0 with
  | .error p => nI p
  | .ok x => if pk row L x.1 = -1 then -1 else nI (sk row L x.1)
theorem numS_sk {row : Nat → Int32} {L a : Nat} (h : a ≤ L) : numS row L (sk row L a) = numS row L a := by
  unfold numS
  rw [pk_sk h, sk_sk h]
theorem atS_sk {row lt : Nat → Int32} {L a : Nat} {sub : Option (Nat → PR)} (h : a ≤ L) : atS row lt L sub (sk row L a) = atS row lt L sub a := by
  unfold atS
  rw [pk_sk h, sk_sk h, numS_sk h]
theorem smS_sk {row lt : Nat → Int32} {L k a : Nat} (h : a ≤ L) : smS row lt L k (sk row L a) = smS row lt L k a := by
  rw [smS_eq]
  unfold lpS
  rw [atS_sk h]
theorem cmS_sk {row lt : Nat → Int32} {L k a : Nat} (h : a ≤ L) : cmS row lt L k (sk row L a) = cmS row lt L k a := by
  unfold cmS
  rw [smS_sk h]
