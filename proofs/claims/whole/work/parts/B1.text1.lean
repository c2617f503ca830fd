/-! ===== class and reference: a law told ===== -/
/-- no more cells than bytes -/
def gg (L : Nat) (r : Nat → PR) : Prop := ∀ a x, a ≤ L → r a = .ok x → x.2.length + a ≤ x.1 ∧ x.1 ≤ L
theorem gg_bnd {L : Nat} {r f : Nat → PR} (h1 : gg L r) (h2 : gg L f) : gg L (fun a => bnd (r a) f) := fun a x ha hx => by
  obtain ⟨y, z, e1, e2, rfl⟩ := bnd_ok hx
  have p := h1 a y ha e1
  have q := h2 y.1 z p.2 e2
  refine ⟨?_, q.2⟩
  show (y.2 ++ z.2).length + a ≤ z.1
  rw [List.length_append]
  omega
theorem gg_em {L : Nat} {row : Nat → Int32} {f : Nat → PR} {c : Int32} (hf : gg L f) {a : Nat} {x : Nat × List Int32} (ha : a ≤ L) (hl : sk row L a < L) (h : bnd (f (sk row L a + 1)) (emS c) = .ok x) : x.2.length + a ≤ x.1 ∧ x.1 ≤ L := by
  have sl := sk_le row ha
  obtain ⟨y, z, e1, e2, rfl⟩ := bnd_ok h
  rw [em_ok e2]
  have p := hf _ y (by omega) e1
  refine ⟨?_, p.2⟩
  show (y.2 ++ [c]).length + a ≤ y.1
  rw [List.length_append]
  show y.2.length + 1 + a ≤ y.1
  omega
theorem gg_sk {L : Nat} {row : Nat → Int32} {f : Nat → PR} (hf : gg L f) {a : Nat} {x : Nat × List Int32} (ha : a ≤ L) (hl : sk row L a < L) (h : f (sk row L a + 1) = .ok x) : x.2.length + a ≤ x.1 ∧ x.1 ≤ L := by
  have sl := sk_le row ha
  have := hf _ _ (by omega) h
  exact ⟨by omega, this.2⟩
theorem gg_want {row : Nat → Int32} {L : Nat} {c : Int32} (hc : ¬ c = -1) : gg L (wantS row L c) := fun a x ha hx => by
  obtain ⟨e, rfl⟩ := want_ok hx
  have h1 := pkin e hc
  have h2 := sk_le row ha
  exact ⟨by show 0 + a ≤ sk row L a + 1; omega, by show sk row L a + 1 ≤ L; omega⟩
theorem gg_tl {row : Nat → Int32} {L : Nat} {sub : Nat → PR} {o1 o2 : Int32} (hs : gg L sub) (h1 : ¬ o1 = -1) (h2 : ¬ o2 = -1) : ∀ n, gg L (tlS row L sub o1 o2 n)
  | 0 => fun a x ha hx => by
    have hx : (.ok (a, []) : PR) = .ok x := hx
    cases hx
    exact ⟨by show 0 + a ≤ a; omega, ha⟩
  | n + 1 => fun a x ha hx => by
    have sl := sk_le row ha
    by_cases c : pk row L a = o1 ∨ pk row L a = o2
    · have hx : bnd (bnd (sub (sk row L a + 1)) (emS (20000 + pk row L a))) (tlS row L sub o1 o2 n) = .ok x := (if_pos c).symm.trans hx
      have hne : ¬ pk row L a = -1 := by
        rcases c with c | c
        · rw [c]; exact h1
        · rw [c]; exact h2
      have hl := pkin (row := row) (L := L) (a := a) rfl hne
      obtain ⟨y, z, e1, e2, rfl⟩ := bnd_ok hx
      have p := gg_em hs ha hl e1
      have q := gg_tl hs h1 h2 n _ _ p.2 e2
      refine ⟨?_, q.2⟩
      show (y.2 ++ z.2).length + a ≤ z.1
      rw [List.length_append]
      omega
    · have hx : (.ok (sk row L a, []) : PR) = .ok x := (if_neg c).symm.trans hx
      cases hx
      exact ⟨by show 0 + a ≤ sk row L a; omega, sl.2⟩
theorem gg_lp {row : Nat → Int32} {L : Nat} {sub : Nat → PR} {o1 o2 : Int32} (hs : gg L sub) (h1 : ¬ o1 = -1) (h2 : ¬ o2 = -1) : gg L (lpS row L sub o1 o2) := gg_bnd hs (gg_tl hs h1 h2 241)
theorem gg_num (row : Nat → Int32) (L : Nat) : gg L (numS row L) := fun a x ha hx => by
  have sl := sk_le row ha
  unfold numS at hx
  by_cases c : pk row L a < 48 ∨ ¬ pk row L a ≤ 57
  · rw [if_pos c] at hx; cases hx
  · rw [if_neg c] at hx
    by_cases c2 : (nmB row 4 (L - sk row L a) (sk row L a) 0 0).2.2 = true
    · rw [if_pos c2] at hx; cases hx
    · rw [if_neg c2] at hx
      cases hx
      have cd : ¬ pk row L a < 48 ∧ ¬ 57 < pk row L a := ⟨fun z => c (Or.inl z), fun z => c (Or.inr (Int32.not_le.mpr z))⟩
      have hdg : dgP row L (sk row L a) := cd
      have h1 := (dg_n hdg).1
      have hpos : sk row L a + 1 ≤ (nmB row 4 (L - sk row L a) (sk row L a) 0 0).2.1 := by
        rw [nm_eq row sl.2, if_pos hdg, if_neg (by decide)]
        exact (nmB_le row 4 L (L - (sk row L a + 1)) (sk row L a + 1) _ _ (by omega)).1
      have := nmB_le row 4 L (L - sk row L a) (sk row L a) 0 0 (by omega)
      exact ⟨by show 1 + a ≤ _; omega, this.2⟩
theorem gg_at {row lt : Nat → Int32} {L : Nat} {sub : Option (Nat → PR)} (hs : ∀ f, sub = some f → gg L f) (hlt : itm lt 6 (-1) < 0) : gg L (atS row lt L sub) := fun a x ha hx => by
  have sl := sk_le row ha
  unfold atS at hx
  by_cases c : ¬ itm lt 6 (pk row L a) < 0
  · rw [if_pos c] at hx
    cases hx
    have hl := pkin (row := row) (L := L) (a := a) rfl (fun z => c (by rw [z]; exact hlt))
    exact ⟨by show 1 + a ≤ sk row L a + 1; omega, by show sk row L a + 1 ≤ L; omega⟩
  · rw [if_neg c] at hx
    by_cases c2 : pk row L a = 91
    · rw [if_pos c2] at hx
      have hl := pkin c2 (by decide)
      cases sub with
      | none => cases hx
      | some f => exact gg_sk (f := fun a => bnd (f a) (wantS row L 93)) (gg_bnd (hs f rfl) (gg_want (by decide))) ha hl hx
    · rw [if_neg c2] at hx
      exact gg_num row L a x ha hx
theorem gg_sm {row lt : Nat → Int32} {L : Nat} (hlt : itm lt 6 (-1) < 0) : ∀ k, gg L (smS row lt L k)
  | 0 => by
    show gg L (lpS row L (lpS row L (atS row lt L none) 42 47) 43 45)
    exact gg_lp (gg_lp (gg_at (fun f h => by cases h) hlt) (by decide) (by decide)) (by decide) (by decide)
  | k + 1 => by
    show gg L (lpS row L (lpS row L (atS row lt L (some (smS row lt L k))) 42 47) 43 45)
    exact gg_lp (gg_lp (gg_at (fun f h => by cases h; exact gg_sm hlt k) hlt) (by decide) (by decide)) (by decide) (by decide)
theorem gg_rl {row lt : Nat → Int32} {L : Nat} (hlt : itm lt 6 (-1) < 0) (k : Nat) : gg L (rlS row lt L k) := fun a x ha hx => by
  by_cases c : isRl (pk row L a)
  · rw [rl_t c] at hx
    exact gg_em (gg_sm hlt k) ha (rl_in c) hx
  · rw [rl_f c] at hx; cases hx
theorem gg_unB {row lt : Nat → Int32} {L k : Nat} {un cd : Option (Nat → PR)} (hlt : itm lt 6 (-1) < 0) (hu : ∀ f, un = some f → gg L f) (hc : ∀ f, cd = some f → gg L f) : gg L (unB row lt L k un cd) := fun a x ha hx => by
  unfold unB at hx
  by_cases c1 : pk row L a = 33
  · rw [if_pos c1] at hx
    cases un with
    | none => cases hx
    | some f => exact gg_em (hu f rfl) ha (pkin c1 (by decide)) hx
  · rw [if_neg c1] at hx
    by_cases c2 : pk row L a = 40
    · rw [if_pos c2] at hx
      cases cd with
      | none => cases hx
      | some f => exact gg_sk (f := fun b => bnd (f b) (wantS row L 41)) (gg_bnd (hc f rfl) (gg_want (by decide))) ha (pkin c2 (by decide)) hx
    · rw [if_neg c2] at hx
      exact gg_bnd (gg_sm hlt k) (gg_rl hlt k) a x ha hx
theorem gg_cd {row : Nat → Int32} {L : Nat} {un : Nat → PR} (h : gg L un) : gg L (cdB row L un) := gg_lp (gg_lp h (by decide) (by decide)) (by decide) (by decide)
theorem gg_un {row lt : Nat → Int32} {L : Nat} (hlt : itm lt 6 (-1) < 0) : ∀ k, gg L (unS' row lt L k)
  | 0 => gg_unB hlt (fun f h => by cases h) (fun f h => by cases h)
  | k + 1 => gg_unB hlt (fun f h => by cases h; exact gg_un hlt k) (fun f h => by cases h; exact gg_cd (gg_un hlt k))
theorem gg_c2 {row lt : Nat → Int32} {L : Nat} (hlt : itm lt 6 (-1) < 0) : gg L (c2S row lt L) := fun a x ha hx => by
  unfold c2S at hx
  obtain ⟨y, z, e1, e2, rfl⟩ := bnd_ok hx
  obtain ⟨u, v, e3, e4, rfl⟩ := bnd_ok e1
  obtain ⟨e5, rfl⟩ := want_ok e3
  rw [em_ok e4] at e2 ⊢
  have hl := pkin e5 (by decide)
  have sl := sk_le row ha
  have q := gg_sm hlt 6 _ _ (show sk row L a + 1 ≤ L by omega) e2
  refine ⟨?_, q.2⟩
  show ([] ++ [20063] ++ z.2).length + a ≤ z.1
  rw [List.length_append]
  show 1 + z.2.length + a ≤ z.1
  omega
theorem gg_cb {row lt : Nat → Int32} {L : Nat} (hlt : itm lt 6 (-1) < 0) : gg L (cbS row lt L) := fun a x ha hx => by
  have sl := sk_le row ha
  unfold cbS at hx
  have c1g : gg L (c1S row lt L) := gg_bnd (gg_bnd (gg_rl hlt 6) (gg_tl (gg_un hlt 6) (by decide) (by decide) 241)) (gg_tl (gg_lp (gg_un hlt 6) (by decide) (by decide)) (by decide) (by decide) 241)
  by_cases c : pk row L a = 33 ∨ pk row L a = 40
  · rw [if_pos c] at hx
    have := gg_bnd (r := cnS row lt L 6) (gg_cd (gg_un hlt 6)) (gg_c2 hlt) (sk row L a) x sl.2 hx
    exact ⟨by omega, this.2⟩
  · rw [if_neg c] at hx
    have hf : gg L (fun a1 => @ite PR (isRl (pk row L a1)) (by unfold isRl; infer_instance) (bnd (c1S row lt L (sk row L a1)) (c2S row lt L)) (.ok (sk row L a1, []))) := fun a1 y h1 hy => by
      have s1 := sk_le row h1
      by_cases c2 : isRl (pk row L a1)
      · have hy : bnd (c1S row lt L (sk row L a1)) (c2S row lt L) = .ok y := (if_pos c2).symm.trans hy
        have := gg_bnd c1g (gg_c2 hlt) (sk row L a1) y s1.2 hy
        exact ⟨by omega, this.2⟩
      · have hy : (.ok (sk row L a1, []) : PR) = .ok y := (if_neg c2).symm.trans hy
        cases hy
        exact ⟨by show 0 + a1 ≤ sk row L a1; omega, s1.2⟩
    have := gg_bnd (r := smS row lt L 6) (gg_sm hlt 6) hf (sk row L a) x sl.2 hx
    exact ⟨by omega, this.2⟩
theorem gg_cl {row lt : Nat → Int32} {L : Nat} (hlt : itm lt 6 (-1) < 0) : gg L (clS row lt L) := fun a x ha hx => by
  unfold clS at hx
  obtain ⟨y, z, e1, e2, rfl⟩ := bnd_ok hx
  obtain ⟨u, v, e3, e4, rfl⟩ := bnd_ok e1
  obtain ⟨w, t, e5, e6, rfl⟩ := bnd_ok e3
  obtain ⟨e7, rfl⟩ := want_ok e5
  obtain ⟨e8, rfl⟩ := want_ok e6
  rw [em_ok e2]
  have h1 := pkin e7 (by decide)
  have s1 := sk_le row ha
  have h2 : sk row L (sk row L a + 1) < L := pkin e8 (by decide)
  have s2 := sk_le row (L := L) (a := sk row L a + 1) (by omega)
  have q := gg_cb hlt _ _ (show sk row L (sk row L a + 1) + 1 ≤ L by omega) e4
  refine ⟨?_, q.2⟩
  show ([] ++ [] ++ v.2 ++ [20059]).length + a ≤ v.1
  rw [List.length_append]
  show v.2.length + 1 + a ≤ v.1
  omega
theorem gg_lw {row lt : Nat → Int32} {L : Nat} (hlt : itm lt 6 (-1) < 0) : ∀ n, gg L (lwS row lt L n)
  | 0 => fun a x ha hx => by
    have hx : (.ok (a, []) : PR) = .ok x := hx
    cases hx
    exact ⟨by show 0 + a ≤ a; omega, ha⟩
  | n + 1 => fun a x ha hx => by
    rw [lw_s] at hx
    refine gg_bnd (r := clS row lt L) (gg_cl hlt) (fun a1 y h1 hy => ?_) a x ha hx
    have s1 := sk_le row h1
    by_cases c : pk row L a1 = 59
    · have hy : lwS row lt L n (sk row L a1 + 1) = .ok y := (if_pos c).symm.trans hy
      exact gg_sk (gg_lw hlt n) h1 (pkin c (by decide)) hy
    · have hy : (.ok (sk row L a1, []) : PR) = .ok y := (if_neg c).symm.trans hy
      cases hy
      exact ⟨by show 0 + a1 ≤ sk row L a1; omega, s1.2⟩
theorem apR_lt (t : List Int32) : ∀ (row : Nat → Int32) (cl i : Nat), i < cl → apR row cl t i = row i := by
  induction t with
  | nil => intro row cl i _; rfl
  | cons v t ih =>
    intro row cl i hi
    show apR (upd row cl v) (cl + 1) t i = row i
    rw [ih _ _ _ (by omega)]
    unfold upd
    rw [if_neg (by omega)]
theorem apR_at (t : List Int32) : ∀ (row : Nat → Int32) (cl i : Nat), i < t.length → apR row cl t (cl + i) = t.getD i 0 := by
  induction t with
  | nil => intro row cl i hi; cases hi
  | cons v t ih =>
    intro row cl i hi
    show apR (upd row cl v) (cl + 1) t (cl + i) = _
    cases i with
    | zero =>
      rw [apR_lt t _ _ _ (by omega)]
      unfold upd
      rw [if_pos (by omega)]
      rfl
    | succ i =>
      rw [show cl + (i + 1) = cl + 1 + i by omega, ih _ _ _ (by simp only [List.length_cons] at hi; omega)]
      rfl
theorem cl_len : ∀ cs : CLs, (∀ c ∈ cs, clOK c) → (cs.flatMap clF).length + cs.length ≤ (cs.flatMap clT).length ∧ cs.length ≤ (cs.flatMap clF).length
  | [], _ => ⟨Nat.le_refl _, Nat.le_refl _⟩
  | c :: r, h => by
    obtain ⟨i1, i2⟩ := cl_len r (fun y hy => h y (List.mem_cons_of_mem _ hy))
    obtain ⟨h1, h2⟩ := h c List.mem_cons_self
    have hne := List.length_pos_iff.mpr (ty_ne (by omega) h2)
    rw [List.flatMap_cons, List.flatMap_cons, List.length_append, List.length_append]
    have e1 : (clF c).length = c.1.length + c.2.length := by
      unfold clF
      rw [List.length_append]
    have e2 : (clF c).length + 1 ≤ (clT c).length := by
      rw [e1]
      by_cases e : c.1 = []
      · rw [clT_n e, e, List.length_append]
        show 0 + c.2.length + 1 ≤ c.2.length + 1
        omega
      · rw [clT_y e]
        simp only [List.length_append, List.length_cons, List.length_nil]
        omega
    simp only [List.length_cons]
    omega
section
variable {E : EV} {d : Nat} {G : GD} {I : IM}
theorem j_text1 (hX : JX G I) : JRes E d G I mX10_text mX11_text [.int 1] := by
  obtain ⟨hG, hv, ⟨L, hT⟩, ⟨N, css, hL⟩, ⟨P, T, hP, A, ptr, dm, hB⟩, ⟨t, hS⟩, hO⟩ := id hX
  have hlt := hO.2.2.2.2
  have hlen : ∀ x, lwS (I 2) (I 100016) L 241 0 = .ok x → x.2.length ≤ 241 := fun x hx => by
    have := gg_lw hlt.m1 241 0 x (Nat.zero_le _) hx
    have := hT.1
    omega
  obtain ⟨G', I1, hG', r1, s1, s2⟩ := m_text1 (E := E) (d := d + 27) hG hv hT.1 hT.2.1 hO.2.2.1 hL.1 hL.2.1 hlen
  have hGT : GTs G' := by
    rcases hG' with rfl | rfl
    · exact hG
    · exact gS_25 hG
  have hGN : gN G' = gN G := by
    rcases hG' with rfl | rfl
    · rfl
    · rfl
  have hGV : GVn G' := by
    rcases hG' with rfl | rfl
    · exact hv
    · exact hv
  by_cases c : N < 4 ∧ lfS (I 2) (I 100016) L = -1
  · obtain ⟨x, a, ex, eJ⟩ := s1 c
    have hxl := hlen x ex
    -- the class's cells
    have k1 : ∀ b k, ¬ (b = 1 ∧ k = 1 ∨ b = 27 ∧ k = 5 ∨ b = 33 ∧ k = N ∨ b = 29 + N) → ¬ scr b k → I1 b k = I b k := fun b k q q2 => by
      rw [eJ, up2_o (by omega)]
      unfold lkI
      rw [up2_o (by omega), up2_o (by omega), upr_ne (by omega)]
      exact lq_Z hO.2.2.1 L a (-1) x.2.length (apR (I 24) 0 x.2) b k q2
    have hi : ∀ b, 311 ≤ b → I1 b = I b := fun b hb => funext fun k => k1 b k (by omega) (by unfold scr; omega)
    obtain ⟨J1, -, fr, lw, r2⟩ := r_text1 (E := E) (d := d + 9) hGT hT.1 hlt hT.2.2.2.2 (J := I1) (by rw [hi 311 (by decide)]; exact hT.2.2.1) (by rw [hi 312 (by decide)]; exact hT.2.2.2.1) hL.1 (by rw [hi 311 (by decide)]; exact hL.2.2.1)
    rw [if_pos c] at r1
    rw [if_pos c, if_pos c] at r2
    obtain ⟨cs, x', l1, l2, l3, l4, l5, l6⟩ := lw c.1 c.2
    obtain rfl : x' = x := by
      have := l1.symm.trans ex
      cases this
      rfl
    rw [List.nil_append] at l4 l5
    obtain ⟨m1, m2⟩ := cl_len cs l3
    rw [← l2] at m1
    refine ⟨_, _, _, _, _, r1, hGT, r2, hGN, hGT, hGV, ?_⟩
    -- everything else stands
    have ot : ∀ b k, ¬ (b = 1 ∧ k = 1 ∨ b = 27 ∧ k = 5 ∨ b = 33 ∧ k = N ∨ b = 29 + N) → ¬ scr b k → ¬ ((b = 313 ∨ b = 314) ∧ 520 * N ≤ k ∧ k < 520 * N + 520 ∨ (b = 315 ∨ b = 316) ∧ k = N ∨ (b = 317 ∨ b = 318 ∨ b = 319) ∧ 140 * N ≤ k ∧ k < 140 * N + 140 ∨ b = 311 ∧ (k = 2 ∨ k = 3 ∨ k = 4 ∨ k = 5 ∨ k = 13 ∨ k = 14)) → up2 (up2 J1 311 2 0) 311 13 (nI (N + 1)) b k = I b k := fun b k q1 q2 q3 => by
      rw [up2_o (by omega), up2_o (by omega), fr b k (by omega), k1 b k q1 q2]
    have lo : ∀ b k, b < 311 → up2 (up2 J1 311 2 0) 311 13 (nI (N + 1)) b k = I1 b k := fun b k hb => by rw [up2_o (by omega), up2_o (by omega), fr b k (by omega)]
    refine ⟨⟨0, ?_⟩, ⟨N + 1, fun h => if h = N then cs else css h, ?_⟩, ⟨P, T, hP.fr (fun b k q => ot b k ?_ ?_ ?_), A, ptr, dm, hB.fr (fun b k q => ot b k ?_ ?_ ?_) (fun b k q => ot b k ?_ ?_ ?_)⟩, ⟨t, hS.fr (fun b k q => ot b k ?_ ?_ ?_)⟩, hO.fr (fun b k q => ot b k ?_ ?_ ?_)⟩
    · refine ⟨by omega, ?_, ?_, ?_, fun k hk => by omega⟩
      · rw [lo 1 1 (by decide), eJ, up2_sa]
        rfl
      · rw [up2_nk (by decide), up2_sa]
        rfl
      · funext k
        rw [ot 312 k (by omega) (by unfold scr; omega) (by omega), ot 2 k (by omega) (by unfold scr; omega) (by omega), hT.2.2.2.1]
    · refine ⟨by omega, ?_, up2_sa _ _ _ _, ?_, ?_, fun h hh => ?_⟩
      · rw [lo 27 5 (by decide), eJ, up2_o (by omega)]
        unfold lkI
        rw [up2_sa]
      · rw [ot 311 29 (by omega) (by unfold scr; omega) (by omega), ot 27 6 (by omega) (by unfold scr; omega) (by omega)]
        exact hL.2.2.2.1
      · rw [ot 27 6 (by omega) (by unfold scr; omega) (by omega)]
        rcases hL.2.2.2.2.1 with z | ⟨h, hh, z⟩
        · exact Or.inl z
        · exact Or.inr ⟨h, by omega, z⟩
      · by_cases e : h = N
        · subst e
          show LRef _ h (if h = h then cs else css h) ∧ _ = nI (((if h = h then cs else css h).flatMap clT).length) ∧ ((if h = h then cs else css h).flatMap clT).length ≤ 241 ∧ ∀ i, i < ((if h = h then cs else css h).flatMap clT).length → _ = ((if h = h then cs else css h).flatMap clT).getD i 0
          rw [if_pos rfl, ← l2]
          refine ⟨⟨by omega, by omega, ?_, ?_, l3⟩, ?_, hxl, fun i hi2 => ?_⟩
          · intro i hi2
            rw [up2_ne (by decide), up2_ne (by decide), up2_ne (by decide), up2_ne (by decide)]
            exact l4.2.2.2.2.2.2 i hi2
          · unfold CSt
            rw [up2_ne (by decide), up2_ne (by decide), up2_ne (by decide), up2_ne (by decide), up2_ne (by decide), up2_ne (by decide), up2_ne (by decide), up2_ne (by decide)]
            exact l5
          · rw [lo 33 h (by decide), eJ, up2_o (by omega)]
            unfold lkI
            rw [up2_o (by omega), up2_sa]
          · rw [lo (29 + h) i (by omega), eJ, up2_o (by omega)]
            unfold lkI
            rw [up2_o (by omega), up2_o (by omega)]
            show upr _ (29 + h) _ (29 + h) i = _
            unfold upr
            rw [if_pos rfl]
            unfold va_cpy
            rw [if_pos ⟨by omega, by omega⟩]
            show lq (sgI I 25 L) a (-1) x'.2.length (apR (I 24) 0 x'.2) 0 24 (0 + (i - 0)) = _
            unfold lq
            rw [pI_ne (by decide), up2_ne (by decide), up2_ne (by decide), rwI_at]
            exact apR_at x'.2 (I 24) 0 i hi2
        · show LRef _ h (if h = N then cs else css h) ∧ _ = nI (((if h = N then cs else css h).flatMap clT).length) ∧ ((if h = N then cs else css h).flatMap clT).length ≤ 241 ∧ ∀ i, i < ((if h = N then cs else css h).flatMap clT).length → _ = ((if h = N then cs else css h).flatMap clT).getD i 0
          rw [if_neg e]
          obtain ⟨k2, k3, k4, k5⟩ := hL.2.2.2.2.2 h (by omega)
          obtain ⟨z1, z2, z3, z4, z5⟩ := k2
          refine ⟨⟨z1, z2, fun i hi2 => ?_, ⟨?_, fun i hi2 => ?_⟩, z5⟩, ?_, k4, fun i hi2 => ?_⟩
          · rw [ot 313 _ (by omega) (by unfold scr; omega) (by omega), ot 314 _ (by omega) (by unfold scr; omega) (by omega)]
            exact z3 i hi2
          · rw [ot 316 h (by omega) (by unfold scr; omega) (by omega)]
            exact z4.1
          · rw [ot 317 _ (by omega) (by unfold scr; omega) (by omega), ot 318 _ (by omega) (by unfold scr; omega) (by omega), ot 319 _ (by omega) (by unfold scr; omega) (by omega)]
            exact z4.2 i hi2
          · rw [ot 33 h (by omega) (by unfold scr; omega) (by omega)]
            exact k3
          · rw [ot (29 + h) i (by omega) (by unfold scr; omega) (by omega)]
            exact k5 i hi2
    all_goals first | (unfold rdP at q; (first | omega | (unfold scr; omega))) | (unfold rdB at q; (first | omega | (unfold scr; omega))) | (unfold rdBr at q; (first | omega | (unfold scr; omega))) | (unfold rdS at q; (first | omega | (unfold scr; omega))) | (unfold rdO at q; (first | omega | (unfold scr; omega)))
  · have z : eqZ I I1 := by
      rcases s2 c with e | ⟨a, cl, rw', e⟩
      · rw [e]; exact eqZ.rf
      · rw [e]; exact lq_Z hO.2.2.1 L a _ cl rw'
    have hi := Z311 z
    obtain ⟨J1, f4, fr, -, r2⟩ := r_text1 (E := E) (d := d + 9) hGT hT.1 hlt hT.2.2.2.2 (J := I1) (by rw [hi 311 (by decide)]; exact hT.2.2.1) (by rw [hi 312 (by decide)]; exact hT.2.2.2.1) hL.1 (by rw [hi 311 (by decide)]; exact hL.2.2.1)
    rw [if_neg c] at r1
    rw [if_neg c, if_neg c] at r2
    refine ⟨_, _, _, _, _, r1, hGT, r2, hGN, hGT, hGV, ?_⟩
    by_cases c4 : N = 4
    · rw [f4 c4]
      exact hX.2.2.Z z
    · -- the laws told do not reach where law N is read
      obtain ⟨⟨L', h1⟩, -, ⟨P', T', h3, A', ptr', dm', h4⟩, ⟨t', h5⟩, h6⟩ := hX.2.2.Z z
      have hL1 : JL I1 N css := hL.fr (fun b k q => z b k (by unfold rdL at q; unfold scr; omega))
      have ot : ∀ b k, ¬ ((b = 313 ∨ b = 314) ∧ 520 * N ≤ k ∧ k < 520 * N + 520 ∨ (b = 315 ∨ b = 316) ∧ k = N ∨ (b = 317 ∨ b = 318 ∨ b = 319) ∧ 140 * N ≤ k ∧ k < 140 * N + 140 ∨ b = 311 ∧ (k = 3 ∨ k = 4 ∨ k = 5 ∨ k = 14)) → J1 b k = I1 b k := fr
      refine ⟨⟨L', h1.fr (fun b k q => ot b k (by unfold rdTp at q; omega))⟩, ⟨N, css, ?_⟩, ⟨P', T', h3.fr (fun b k q => ot b k (by unfold rdP at q; omega)), A', ptr', dm', h4.fr (fun b k q => ot b k (by unfold rdB at q; omega)) (fun b k q => ot b k (by unfold rdBr at q; omega))⟩, ⟨t', h5.fr (fun b k q => ot b k (by unfold rdS at q; omega))⟩, h6.fr (fun b k q => ot b k (by unfold rdO at q; omega))⟩
      obtain ⟨q1, q2, q3, q4, q5, q6⟩ := hL1
      refine ⟨q1, by rw [ot 27 5 (by omega)]; exact q2, by rw [ot 311 13 (by omega)]; exact q3, by rw [ot 311 29 (by omega), ot 27 6 (by omega)]; exact q4, by rw [ot 27 6 (by omega)]; exact q5, fun h hh => ?_⟩
      obtain ⟨k2, k3, k4, k5⟩ := q6 h hh
      obtain ⟨z1, z2, z3, z4, z5⟩ := k2
      refine ⟨⟨z1, z2, fun i hi2 => ?_, ⟨?_, fun i hi2 => ?_⟩, z5⟩, ?_, k4, fun i hi2 => ?_⟩
      · rw [ot 313 _ (by omega), ot 314 _ (by omega)]
        exact z3 i hi2
      · rw [ot 316 h (by omega)]
        exact z4.1
      · rw [ot 317 _ (by omega), ot 318 _ (by omega), ot 319 _ (by omega)]
        exact z4.2 i hi2
      · rw [ot 33 h (by omega)]
        exact k3
      · rw [ot (29 + h) i (by omega)]
        exact k5 i hi2
end
