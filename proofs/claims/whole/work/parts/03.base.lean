/-! ===== the worlds of this claim: memory by small numbers ===== -/
/-- how many cells, their kinds, their lengths, their references, their longs -/
abbrev GD : Type := Nat × (Nat → Nat) × (Nat → Nat) × (Nat → Nat → Option Nat) × (Nat → Nat → Int64)
abbrev IM : Type := Nat → Nat → Int32
/-- launch, class numbers, array class numbers, where the law's own cells begin, where the given cells lie, what they hold -/
abbrev EV : Type := Launch × va_G × (Nat → ClassId) × Nat × (Nat → Nat) × GD × IM
def eL (E : EV) : Launch := E.1
def eD (E : EV) : va_G := E.2.1
def eA (E : EV) : Nat → ClassId := E.2.2.1
def eB (E : EV) : Nat := E.2.2.2.1
def ePr (E : EV) : Nat → Nat := E.2.2.2.2.1
def eG (E : EV) : GD := E.2.2.2.2.2.1
def eI (E : EV) : IM := E.2.2.2.2.2.2
def eAA (E : EV) : Nat → Prop := fun q => eB E ≤ q
def gN (G : GD) : Nat := G.1
def gC (G : GD) (a : Nat) : Nat := G.2.1 a
def gL (G : GD) (a : Nat) : Nat := G.2.2.1 a
def gP (G : GD) (a k : Nat) : Option Nat := G.2.2.2.1 a k
def gJ (G : GD) (a k : Nat) : Int64 := G.2.2.2.2 a k
def up2 {α : Type} (f : Nat → Nat → α) (a k : Nat) (v : α) : Nat → Nat → α := fun b j => if b = a then (if j = k then v else f b j) else f b j
/-- a row put in the place of another -/
def upr {α : Type} (f : Nat → Nat → α) (a : Nat) (r : Nat → α) : Nat → Nat → α := fun b j => if b = a then r j else f b j
def gpP (G : GD) (a k : Nat) (v : Option Nat) : GD := (G.1, G.2.1, G.2.2.1, up2 G.2.2.2.1 a k v, G.2.2.2.2)
def gpJ (G : GD) (a k : Nat) (v : Int64) : GD := (G.1, G.2.1, G.2.2.1, G.2.2.2.1, up2 G.2.2.2.2 a k v)
/-- a cell more, of kind c and length n, with nothing in it -/
def gNw (G : GD) (c n : Nat) : GD := (G.1 + 1, va_up G.2.1 G.1 c, va_up G.2.2.1 G.1 n, upr G.2.2.2.1 G.1 (fun _ => none), upr G.2.2.2.2 G.1 (fun _ => 0))
def ad (E : EV) (i : Nat) : Nat := if i < 100000 then eB E + i else ePr E (i - 100000)
def tr (E : EV) (v : Value) : Value := match v with
  | .ref i => .ref (ad E i)
  | w => w
def tcode (t : FieldType) : Nat := match t with
  | .long => 1
  | .object _ => 2
  | .array _ => 2
  | _ => 0
def acode (c : Nat) : Nat := if c = 101 then 1 else if c < 104 then 0 else 2
def RR (c : Nat) : String := match c with
  | 0 => RX0 | 1 => RX1 | 2 => RX2 | 3 => RX3 | 4 => RX4 | 5 => RX5 | 6 => RX6 | 7 => RX7 | 8 => RX8 | 9 => RX9 | 10 => RX10 | _ => RX11
def TT (c : Nat) : u_T := match c with
  | 0 => TX0 | 1 => TX1 | 2 => TX2 | 3 => TX3 | 4 => TX4 | 5 => TX5 | 6 => TX6 | 7 => TX7 | 8 => TX8 | 9 => TX9 | 10 => TX10 | _ => TX11
def fty (c : Nat) : Nat → FieldType := match c with
  | 0 => tyX0 | 1 => tyX1 | 2 => tyX2 | 3 => tyX3 | 4 => tyX4 | 5 => tyX5 | 6 => tyX6 | 7 => tyX7 | 8 => tyX8 | 9 => tyX9 | 10 => tyX10 | _ => tyX11
def nfl (c : Nat) : Nat := match c with
  | 0 => 3 | 1 => 4 | 2 => 7 | 3 => 3 | 4 => 6 | 5 => 4 | 6 => 7 | 7 => 2 | 8 => 6 | 9 => 4 | 10 => 17 | _ => 45
theorem cl_at {c : Nat} (h : c < 12) : vwCl[c]? = some (RR c, TT c, nfl c) := by
  rcases (show c = 0 ∨ c = 1 ∨ c = 2 ∨ c = 3 ∨ c = 4 ∨ c = 5 ∨ c = 6 ∨ c = 7 ∨ c = 8 ∨ c = 9 ∨ c = 10 ∨ c = 11 by omega) with rfl | rfl | rfl | rfl | rfl | rfl | rfl | rfl | rfl | rfl | rfl | rfl <;> rfl
theorem cl_ty {c : Nat} (h : c < 12) : ∀ k, k < nfl c → parseFieldDescriptor (TT c k).2.2.1 = some (fty c k) := by
  rcases (show c = 0 ∨ c = 1 ∨ c = 2 ∨ c = 3 ∨ c = 4 ∨ c = 5 ∨ c = 6 ∨ c = 7 ∨ c = 8 ∨ c = 9 ∨ c = 10 ∨ c = 11 by omega) with rfl | rfl | rfl | rfl | rfl | rfl | rfl | rfl | rfl | rfl | rfl | rfl
  · exact tyX0_ok
  · exact tyX1_ok
  · exact tyX2_ok
  · exact tyX3_ok
  · exact tyX4_ok
  · exact tyX5_ok
  · exact tyX6_ok
  · exact tyX7_ok
  · exact tyX8_ok
  · exact tyX9_ok
  · exact tyX10_ok
  · exact tyX11_ok
theorem cl_nm {c : Nat} (h : c < 12) : ∀ a, a < nfl c → ∀ b, b < nfl c → a ≠ b → (TT c a).2.1 ≠ (TT c b).2.1 := by
  rcases (show c = 0 ∨ c = 1 ∨ c = 2 ∨ c = 3 ∨ c = 4 ∨ c = 5 ∨ c = 6 ∨ c = 7 ∨ c = 8 ∨ c = 9 ∨ c = 10 ∨ c = 11 by omega) with rfl | rfl | rfl | rfl | rfl | rfl | rfl | rfl | rfl | rfl | rfl | rfl
  · exact nmX0
  · exact nmX1
  · exact nmX2
  · exact nmX3
  · exact nmX4
  · exact nmX5
  · exact nmX6
  · exact nmX7
  · exact nmX8
  · exact nmX9
  · exact nmX10
  · exact nmX11
theorem cl_in0 : ∀ c, c < 12 → ∀ w ∈ u_ws (RR c) (TT c) (nfl c), w ∈ lw_tbl := by decide +kernel
/-- the words that stay true -/
def lw_g : List Cond := lw_tbl.filter goodWord
theorem inG {w : Cond} (h : w ∈ lw_tbl) (hg : goodWord w = true) : w ∈ lw_g := List.mem_filter.mpr ⟨h, hg⟩
theorem lw_goodIn : GoodIn lw_g lw_g := fun w hw => ⟨hw, good_of_word (List.mem_filter.mp hw).2⟩
theorem cl_in {c : Nat} (h : c < 12) : ∀ w ∈ u_ws (RR c) (TT c) (nfl c), w ∈ lw_g := fun w hw => inG (cl_in0 c h w hw) (by
  obtain ⟨k, -, rfl⟩ := List.mem_map.mp hw
  unfold u_lay
  split <;> rfl)
theorem cl_dec0 : ∀ c, c < 12 → ∀ k, k < nfl c → (TT c k).1 = RR c := by decide +kernel
