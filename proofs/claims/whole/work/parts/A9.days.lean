/-! ===== class and reference: undoing, images, days, years ===== -/
section
variable {E : EV} {d : Nat} {G : GD} {I : IM}
theorem JB.e3 {C R R2 : IM} {P A ptr : Nat} {dm : Nat → Nat} (h : JB C R P A ptr dm) (e : e311 R R2) : JB C R2 P A ptr dm := h.fr (fun _ _ _ => rfl) (fun b k q => by rw [e b (by unfold rdBr at q; omega)])
theorem nA0 {A : Nat} (h : A ≤ 40) : nI A = 0 ↔ A = 0 := by
  have : ∀ A, A ≤ 40 → (nI A = 0 ↔ A = 0) := by decide
  exact this A h
theorem j_undo (hX : JX G I) : JRes E d G I mX10_undo mX11_undo [] := by
  obtain ⟨hG, hv, -, -, ⟨P, T, hP, A, ptr, dm, hB⟩, -, -⟩ := id hX
  have r1 := m_undo (E := E) (d := d + 57) hG hB.r45
  obtain ⟨a1, a2, a3, a4, a5⟩ := hB.1
  rw [a4] at r1
  by_cases c : A = 0
  · have c' := (nA0 a1).mpr c
    rw [if_pos c', if_pos c'] at r1
    have r2 := r_undo (E := E) (d := d + 60) hG a1 a5
    rw [if_pos c, if_pos c] at r2
    exact ⟨_, _, _, _, _, r1, hG, r2, rfl, hX⟩
  · have c' : ¬ nI A = 0 := fun z => c ((nA0 a1).mp z)
    rw [if_neg c', if_neg c'] at r1
    have hU := hB.undo (by omega)
    have far : ∀ b, b < 36 ∨ 46 ≤ b → nUndo I b = I b := fun b hb => by
      unfold nUndo rsI
      rw [putS_far (by omega), up2_ne (by omega), up2_ne (by omega)]
    have c0 : e311 I (nUndo I) := fun b hb => far b (by omega)
    rw [hU.1.2.2.2.1] at r1
    have r2 := r_undo (E := E) (d := d + 60) hG a1 (I := nUndo I) (by rw [c0 311 (by decide)]; exact a5)
    rw [if_neg c, if_neg c] at r2
    refine ⟨_, _, _, _, _, r1, hG, r2, rfl, hG, hv, ?_⟩
    have lo : ∀ b, b < 311 → udI (up2 (nUndo I) 311 32 (nI (A - 1))) (A - 1) 232 b = nUndo I b := fun b hb => by rw [udI_ne (by omega), up2_ne (by omega)]
    have hi : ∀ b, 311 ≤ b → udI (up2 (nUndo I) 311 32 (nI (A - 1))) (A - 1) 232 b = udI (up2 I 311 32 (nI (A - 1))) (A - 1) 232 b := fun b hb => by
      funext k
      unfold udI up2
      rw [c0 b hb, c0 330 (by decide)]
    refine hX.2.2.setB hP (fun b k q => ?_) (hU.join lo hi)
    unfold rdN rdTp rdL rdP rdS rdO at q
    by_cases z : b < 311
    · rw [lo b z, far b (by omega)]
    · rw [udI_ne (by omega), up2_o (by omega), c0 b (by omega)]
theorem j_image (hX : JX G I) : JRes E d G I mX10_image mX11_image [] := by
  obtain ⟨hG, hv, -, -, ⟨P, T, hP, A, ptr, dm, hB⟩, -, -⟩ := id hX
  have r1 := m_image (E := E) (d := d + 58) hG (I := I)
  rw [hP.2.1.1] at r1
  by_cases c : P = 0
  · have c' := (P0 hP.1.1).mpr c
    rw [if_pos c', if_pos c'] at r1
    have r2 := r_image (E := E) (d := d + 60) hG hP.1.1 hP.2.1.2.1
    rw [if_pos c, if_pos c] at r2
    exact ⟨_, _, _, _, _, r1, hG, r2, rfl, hX⟩
  · have c' : ¬ nI P ≤ 0 := fun z => c ((P0 hP.1.1).mp z)
    rw [if_neg c', if_neg c'] at r1
    have hM := hB.image
    have far : ∀ b, b ≠ 0 → b < 247 ∨ 256 ≤ b → nImg I b = I b := fun b h0 hb => by
      unfold nImg
      rw [up2_ne h0]
      funext k
      unfold cpL
      rw [if_neg (by omega), putS_far (by omega)]
    have c0 : e311 I (nImg I) := fun b hb => far b (by omega) (by omega)
    have r2 := r_image (E := E) (d := d + 60) hG hP.1.1 (I := nImg I) (by rw [c0 311 (by decide)]; exact hP.2.1.2.1)
    rw [if_neg c, if_neg c, c0 328 (by decide), show I 328 50 = rv I 0 6 from rfl, hB.st 0 6 in06] at r2
    refine ⟨_, _, _, _, _, r1, hG, r2, rfl, hG, hv, ?_⟩
    have lo : ∀ b, b < 311 → up2 (bkI (nImg I) 337 328 232) 311 44 1 b = nImg I b := fun b hb => by rw [up2_ne (by omega), bkI_ne (by omega)]
    have hi : ∀ b, 311 ≤ b → up2 (bkI (nImg I) 337 328 232) 311 44 1 b = up2 (bkI I 337 328 232) 311 44 1 b := fun b hb => by
      funext k
      unfold up2 bkI
      rw [c0 b hb, c0 328 (by decide)]
    refine hX.2.2.setB hP (fun b k q => ?_) (hM.join lo hi)
    unfold rdN rdTp rdL rdP rdS rdO at q
    by_cases z : b < 311
    · rw [lo b z]
      by_cases z0 : b = 0
      · subst z0
        unfold nImg
        rw [up2_nk (by omega)]
        unfold cpL
        rw [if_neg (by omega), putS_far (by omega)]
      · rw [far b z0 (by omega)]
    · rw [up2_o (by omega), bkI_ne (by omega), c0 b (by omega)]
theorem j_back (hX : JX G I) : JRes E d G I mX10_back mX11_back [] := by
  obtain ⟨hG, hv, -, -, ⟨P, T, hP, A, ptr, dm, hB⟩, -, -⟩ := id hX
  have r1 := m_back (E := E) (d := d + 58) hG (I := I)
  obtain ⟨-, -, -, -, f1, f2, g⟩ := id hB
  by_cases c : I 0 15 = 0
  · rw [if_pos c, if_pos c] at r1
    have r2 := r_back (E := E) (d := d + 60) hG (I := I)
    rw [f2, if_pos c, if_pos c] at r2
    exact ⟨_, _, _, _, _, r1, hG, r2, rfl, hX⟩
  · rw [if_neg c, if_neg c] at r1
    obtain ⟨D, hM⟩ := hB.back c
    obtain ⟨D2, hD2⟩ := g (f1.resolve_left c)
    have far : ∀ b, b < 36 ∨ 46 ≤ b → nBck I b = I b := fun b hb => by
      unfold nBck
      rw [up2_ne (by omega)]
      funext k
      unfold cpL
      rw [if_neg (by omega), putS_far (by omega)]
    have c0 : e311 I (nBck I) := fun b hb => far b (by omega)
    have r2 := r_back (E := E) (d := d + 60) hG (I := nBck I)
    rw [c0 311 (by decide), f2, if_neg c, if_neg c, c0 337 (by decide), show I 337 50 = bv (I 337) 0 6 from rfl, hD2.1 0 6 in06] at r2
    refine ⟨_, _, _, _, _, r1, hG, r2, rfl, hG, hv, ?_⟩
    have lo : ∀ b, b < 311 → up2 (bkI (nBck I) 328 337 232) 311 32 0 b = nBck I b := fun b hb => by rw [up2_ne (by omega), bkI_ne (by omega)]
    have hi : ∀ b, 311 ≤ b → up2 (bkI (nBck I) 328 337 232) 311 32 0 b = up2 (bkI I 328 337 232) 311 32 0 b := fun b hb => by
      funext k
      unfold up2 bkI
      rw [c0 b hb, c0 337 (by decide)]
    refine hX.2.2.setB hP (fun b k q => ?_) (hM.join lo hi)
    unfold rdN rdTp rdL rdP rdS rdO at q
    by_cases z : b < 311
    · rw [lo b z, far b (by omega)]
    · rw [up2_o (by omega), bkI_ne (by omega), c0 b (by omega)]
/-! days -/
theorem day_step {C R : IM} {P A ptr : Nat} {dm : Nat → Nat} (h : JB C R P A ptr dm) (hP1 : 1 ≤ P) (hP5 : P ≤ 5) (hf : R 325 0 = C 15 2) (hfr : rng (C 15 2) 9) (hD : dm A + 1 ≤ 999) : ∃ A' ptr' dm', JB (pd (kp C)) (dR R) P A' ptr' dm' ∧ dm' A' = dm A + 1 := by
  obtain ⟨A', ptr', dm', hK, k1, k2, k3⟩ := h.keep
  have e15 : kp C 15 = C 15 := kp_far (by decide) h.r45
  refine ⟨A', ptr', _, hK.pass k1 (k2.trans k3.symm) (by rw [k3]; exact hD) hP1 hP5 (by rw [kR_ne (by decide) (by decide), e15]; exact hf) (by rw [e15]; exact hfr), ?_⟩
  show (if A' = A' then dm' A' + 1 else dm' A') = dm A + 1
  rw [if_pos rfl, k3]
theorem dR_n {R : IM} {b k : Nat} (h1 : b ≠ 328) (h2 : b ≠ 330) (h3 : ¬ (b = 311 ∧ k = 32)) : dR R b k = R b k := by
  unfold dR
  rw [pR_ne h1]
  by_cases e : b = 311
  · subst e
    exact kpR_311 (fun z => h3 ⟨rfl, z⟩)
  · rw [kR_ne h2 e]
theorem dRN_n {b k : Nat} (h1 : b ≠ 328) (h2 : b ≠ 330) (h3 : ¬ (b = 311 ∧ k = 32)) : ∀ (n : Nat) (R : IM), itN dR n R b k = R b k
  | 0, _ => rfl
  | n + 1, R => by rw [itN_s, dRN_n h1 h2 h3 n (dR R), dR_n h1 h2 h3]
theorem dy_45 {C : IM} (h : rng (C 45 1) 39) : rng (pd (kp C) 45 1) 39 := by
  rw [pd_45 (by decide)]
  exact kp_1 h
theorem dyN_far {b : Nat} (hb : b < 36 ∨ 247 ≤ b) : ∀ (n : Nat) (C : IM), rng (C 45 1) 39 → dyN n C b = C b
  | 0, _, _ => rfl
  | n + 1, C, h => by
    show dyN n (pd (kp C)) b = C b
    rw [dyN_far hb n (pd (kp C)) (dy_45 h)]
    rcases hb with hb | hb
    · rw [pd_lo hb, kp_far (by omega) h]
    · rw [pd_45 (by omega), kp_far (by omega) h]
theorem days_join {P : Nat} (hP1 : 1 ≤ P) (hP5 : P ≤ 5) : ∀ (n : Nat) (C R : IM) (A ptr : Nat) (dm : Nat → Nat), JB C R P A ptr dm → R 325 0 = C 15 2 → rng (C 15 2) 9 → dm A + n ≤ 999 → ∃ A' ptr' dm', JB (dyN n C) (itN dR n R) P A' ptr' dm' ∧ dm' A' = dm A + n
  | 0, C, R, A, ptr, dm, h, _, _, _ => ⟨A, ptr, dm, h, rfl⟩
  | n + 1, C, R, A, ptr, dm, h, hf, hfr, hD => by
    obtain ⟨A1, p1, d1, h1, e1⟩ := day_step h hP1 hP5 hf hfr (by omega)
    have e15 : pd (kp C) 15 = C 15 := by rw [pd_lo (by decide), kp_far (by decide) h.r45]
    obtain ⟨A2, p2, d2, h2, e2⟩ := days_join hP1 hP5 n (pd (kp C)) (dR R) A1 p1 d1 h1 (by rw [dR_n (by decide) (by decide) (by omega), e15]; exact hf) (by rw [e15]; exact hfr) (by omega)
    exact ⟨A2, p2, d2, h2, by omega⟩
theorem day_ok {D : Nat} (hD : D ≤ 999) {n : Int32} (h1 : ¬ n < 1 ∧ ¬ 60 < n) : ∃ m, 1 ≤ m ∧ m ≤ 60 ∧ n = nI m ∧ (nI D + n ≤ 999 ↔ D + m ≤ 999) ∧ (999 < nI D + n ↔ ¬ D + m ≤ 999) := by
  obtain ⟨m, m1, m2, rfl⟩ := in_i (x := n) (a := 1) (b := 60) (by decide) h1 (by decide)
  refine ⟨m, m1, m2, rfl, ?_, ?_⟩
  · rw [nI_add, show (999 : Int32) = nI 999 from rfl]
    constructor
    · intro z
      by_cases y : D + m ≤ 999
      · exact y
      · exact absurd z (nI_ge (by omega) (by omega))
    · intro z
      exact nI_le z (by decide)
  · rw [nI_add, show (999 : Int32) = nI 999 from rfl, nI_ltI (by decide) (by omega)]
    omega
theorem wD_eq {P T A ptr : Nat} {dm : Nat → Nat} (hP : JP I P T) (hB : JB I I P A ptr dm) (n : Int32) : wDR P (I 328 50) n = wDays I n := by
  obtain ⟨h6, hD⟩ := hB.day
  have e50 : I 328 50 = nI (dm A) := (hB.st 0 6 in06).trans h6
  unfold wDR wDays
  rw [hP.2.1.1, e50, h6]
  by_cases c : P = 0
  · rw [if_pos c, if_pos ((P0 hP.1.1).mpr c)]
  · rw [if_neg c, if_neg (fun z => c ((P0 hP.1.1).mp z))]
    by_cases c2 : ¬ n < 1 ∧ ¬ 60 < n
    · rw [if_neg (fun z => z c2), if_neg (show ¬ (n < 1 ∨ ¬ n ≤ 60) from by rintro (z | z); exact c2.1 z; exact z (Int32.not_lt.mp c2.2))]
      by_cases c3 : nI (dm A) + n ≤ 999
      · rw [if_neg (Int32.not_lt.mpr c3), if_neg (Decidable.not_not.mpr c3)]
      · rw [if_pos (Int32.not_le.mp c3), if_pos c3]
    · rw [if_pos c2, if_pos]
      by_cases z : n < 1
      · exact Or.inl z
      · exact Or.inr (fun q => c2 ⟨z, Int32.not_lt.mpr q⟩)
theorem j_days (hX : JX G I) (n : Int32) : JRes E d G I mX10_days mX11_days [.int n] := by
  obtain ⟨hG, hv, -, -, ⟨P, T, hP, A, ptr, dm, hB⟩, -, -⟩ := id hX
  have r1 := m_days (E := E) (d := d + 54) hG hB.r6 hB.r45 n
  have hw := wD_eq hP hB n
  by_cases c : wDays I n = -1
  · rw [if_pos c, if_pos c] at r1
    have cc := c
    rw [← hw] at cc
    unfold wDR at cc
    have hP1 : 1 ≤ P := by
      by_cases z : P = 0
      · rw [if_pos z] at cc
        exact absurd cc (by decide)
      · omega
    rw [if_neg (by omega)] at cc
    have c2 : ¬ n < 1 ∧ ¬ 60 < n := Decidable.not_not.mp (fun z => by
      rw [if_pos z] at cc
      exact absurd cc (by decide))
    rw [if_neg (fun z => z c2)] at cc
    obtain ⟨h6, hD⟩ := hB.day
    obtain ⟨m, m1, m2, rfl, m3, m4⟩ := day_ok hD c2
    have hDm : dm A + m ≤ 999 := by
      by_cases z : dm A + m ≤ 999
      · exact z
      · rw [show I 328 50 = nI (dm A) from (hB.st 0 6 in06).trans h6, if_pos (m4.mpr z)] at cc
        exact absurd cc (by decide)
    rw [nI_clamp (by omega)] at r1
    have c0 : e311 I (dyN m I) := fun b hb => dyN_far (by omega) m I hB.r45
    obtain ⟨A2, p2, d2, h2, e2⟩ := days_join hP1 hP.1.1 m I (dyN m I) A ptr dm (hB.e3 c0) (by rw [c0 325 (by decide)]; exact hP.2.2.1.1) hP.2.2.1.2 hDm
    have r2 := r_days (E := E) (d := d + 53) hG (e311_ROK c0 (hP.rok hB)) (nI m)
    rw [c0 328 (by decide), hw, if_pos c, if_pos c, nI_clamp (by omega), show itN dR m (dyN m I) 328 50 = rv (itN dR m (dyN m I)) 0 6 from rfl, h2.st 0 6 in06] at r2
    refine ⟨_, _, _, _, _, r1, hG, r2, rfl, hG, hv, ?_⟩
    have lo : ∀ b, b < 311 → itN dR m (dyN m I) b = dyN m I b := fun b hb => funext fun k => dRN_n (by omega) (by omega) (by omega) m _
    refine hX.2.2.setB hP (fun b k q => ?_) (h2.join lo (fun _ _ => rfl))
    unfold rdN rdTp rdL rdP rdS rdO at q
    rw [dRN_n (by omega) (by omega) (by omega), dyN_far (by omega) m I hB.r45]
  · rw [if_neg c, if_neg c] at r1
    have r2 := r_days (E := E) (d := d + 53) hG (e311_ROK (nRf_311 (w := wDays I n)) (hP.rok hB)) n
    rw [nRf_311 328 (by decide), hw, if_neg c, if_neg c] at r2
    exact ⟨_, _, _, _, _, r1, hG, r2, rfl, hG, hv, rf_join hX.2.2 (by rw [← hw] at c ⊢; exact (wDR_r P (I 328 50) n).resolve_left c)⟩
/-! years -/
theorem d2_eqS {m : Int32} {x : Int64} {V W : SV} (h : eqS V W) : eqS (d2V m x V) (d2V m x W) := by
  unfold d2V
  by_cases c : m ≤ drw (nxX (nxX (nxX x))) 10
  · rw [if_pos c, if_pos c]; exact h
  · rw [if_neg c, if_neg c]
    obtain ⟨g, hg, eg⟩ := drw_eq (nxX (nxX (nxX (nxX x)))) (j := 12) (by decide) (by decide)
    have eg : drw (nxX (nxX (nxX (nxX x)))) 12 = nI g := eg
    rw [eg, nI_clamp (by omega)]
    have iff : hdP V g ↔ hdP W g := by
      unfold hdP
      rw [eqS_row h (r := 3) (by decide) (by decide) hg, eqS_row h (r := 1) (by decide) (by decide) hg, h 0 4 in04]
    by_cases c2 : hdP V g
    · rw [if_pos c2, if_pos (iff.mp c2)]; exact eqS_up2 h
    · rw [if_neg c2, if_neg (fun z => c2 (iff.mpr z))]; exact h
theorem d1_eqS {P : Nat} {x : Int64} {V W : SV} (h : eqS V W) : eqS (d1R P (wgt I) x V) (d1R P (wgt I) x W) := by
  unfold d1R
  by_cases c : drw (nxX x) (nI P) = drw (nxX (nxX x)) (nI P)
  · rw [if_pos c, if_pos c]; exact h
  · rw [if_neg c, if_neg c]
    by_cases c2 : noOf V (drw (nxX (nxX x)) (nI P))
    · rw [if_pos c2, if_pos ((eqS_no h _).mp c2)]; exact h
    · rw [if_neg c2, if_neg (fun z => c2 ((eqS_no h _).mpr z))]
      exact eqS_of h _ _
theorem year_step {C R : IM} {P A ptr : Nat} {dm : Nat → Nat} (h : JB C R P A ptr dm) (hP1 : 1 ≤ P) (hP5 : P ≤ 5) (hf : R 325 0 = C 15 2) (hfr : rng (C 15 2) 9) (hD : dm A + 1 ≤ 999) (hC : C 15 0 = nI P) (hm : R 311 30 = C 0 16) {I0 : IM} (hL : LawOK I0) (h34 : ∀ b, b < 34 → C b = I0 b) {W : SV → Int32 → Int32 → Int32} (hWr : ∀ V p q, rng (W V p q) 30) (hW : ∀ D, rng D 9999 → agr P D W (wgt I0)) (x : Int64) : ∃ A' ptr' dm', JB (yr1 C x) (yS P W (R, x)).1 P A' ptr' dm' ∧ dm' A' = dm A + 1 := by
  obtain ⟨A', ptr', dm', hK, k1, k2, k3⟩ := h.keep
  have far : ∀ b, b < 36 → kp C b = C b := fun b hb => kp_far (by omega) h.r45
  have wk : wgt (kp C) = wgt I0 := by
    funext V p q
    exact wgt_frame (fun b hb => by rw [far b (by omega), h34 b hb]) hL
  have rvk : rv R = rv (kR R) := (kR_rv R).symm
  have st := hK.st
  rw [kR_rv] at st
  have dK := hK.day
  have hd6 : rv R 0 6 = nI (dm' A') := (st 0 6 in06).trans dK.1
  have e1 : d1R P W x (rv R) = d1R P (wgt I0) x (rv R) := d1_agree (hW (rv R 0 6) ⟨dm' A', by have := dK.2; omega, hd6⟩) rfl hP1 hP5 x
  have eV : dtV (kp C) x (getS (kp C) 36) = d2V (C 0 16) x (d1R P (wgt I0) x (getS (kp C) 36)) := by
    unfold dtV d1V
    rw [far 0 (by decide), far 15 (by decide), hC, wk]
    rfl
  have eqV' : eqS (d2V (R 311 30) x (d1R P W x (rv R))) (dtV (kp C) x (getS (kp C) 36)) := by
    rw [eV, hm, e1]
    exact d2_eqS (d1_eqS st)
  have okR : SVok P (d2V (R 311 30) x (d1R P W x (rv R))) := d2_ok (d1_ok hP5 hP1 (fun V p q _ _ _ => hWr V _ _) (by have := hK.okR; rw [kR_rv] at this; exact this) x)
  have ok : SVok P (dtV (kp C) x (getS (kp C) 36)) := okR.congr eqV'
  have hS := hK.set hP1 ok (dt_num _ _ _) eqV'
  have e15 : putS (kp C) 36 (dtV (kp C) x (getS (kp C) 36)) 15 = C 15 := by rw [putS_far (by decide), far 15 (by decide)]
  refine ⟨A', ptr', _, hS.pass k1 (k2.trans k3.symm) (by rw [k3]; exact hD) hP1 hP5 (by rw [rp_ne (by decide), kR_ne (by decide) (by decide), e15]; exact hf) (by rw [e15]; exact hfr), ?_⟩
  show (if A' = A' then dm' A' + 1 else dm' A') = dm A + 1
  rw [if_pos rfl, k3]
theorem yS_n {P : Nat} {W : SV → Int32 → Int32 → Int32} {R : IM} {x : Int64} {b k : Nat} (h1 : b ≠ 328) (h2 : b ≠ 330) (h3 : ¬ (b = 311 ∧ k = 32)) : (yS P W (R, x)).1 b k = R b k := by
  unfold yS
  show pR _ b k = _
  rw [pR_ne h1, rp_ne h1]
  by_cases e : b = 311
  · subst e
    exact kpR_311 (fun z => h3 ⟨rfl, z⟩)
  · rw [kR_ne h2 e]
theorem yN_n {P : Nat} {W : SV → Int32 → Int32 → Int32} {b k : Nat} (h1 : b ≠ 328) (h2 : b ≠ 330) (h3 : ¬ (b = 311 ∧ k = 32)) : ∀ (n : Nat) (R : IM) (x : Int64), (itN (yS P W) n (R, x)).1 b k = R b k
  | 0, _, _ => rfl
  | n + 1, R, x => by
    rw [itN_s]
    exact (yN_n h1 h2 h3 n (yS P W (R, x)).1 (yS P W (R, x)).2).trans (yS_n h1 h2 h3)
theorem yr_hi {C : IM} {x : Int64} (h : rng (C 45 1) 39) {b : Nat} (hb : 247 ≤ b) : yr1 C x b = C b := by
  unfold yr1
  rw [pd_45 (by omega), putS_far (by omega), kp_far (by omega) h]
theorem yr_45 {C : IM} {x : Int64} (h : rng (C 45 1) 39) : rng (yr1 C x 45 1) 39 := by
  unfold yr1
  rw [pd_45 (by decide), putS_far (by decide)]
  exact kp_1 h
theorem yrN_far {m : Int32} {b : Nat} (hb : b < 36 ∨ 247 ≤ b) : ∀ (n : Nat) (C : IM) (x : Int64), rng (C 45 1) 39 → yrN m n C x b = C b
  | 0, _, _, _ => rfl
  | n + 1, C, x, h => by
    rw [yrN_s, yrN_far hb n _ _ (yr_45 h)]
    rcases hb with hb | hb
    · exact yr_lo x h hb
    · exact yr_hi h hb
theorem years_join {P : Nat} (hP1 : 1 ≤ P) (hP5 : P ≤ 5) {I0 : IM} (hL : LawOK I0) {W : SV → Int32 → Int32 → Int32} (hWr : ∀ V p q, rng (W V p q) 30) (hW : ∀ D, rng D 9999 → agr P D W (wgt I0)) {M : Int32} : ∀ (n : Nat) (C R : IM) (x : Int64) (A ptr : Nat) (dm : Nat → Nat), JB C R P A ptr dm → R 325 0 = C 15 2 → rng (C 15 2) 9 → dm A + n ≤ 999 → C 15 0 = nI P → R 311 30 = M → C 0 16 = M → (∀ b, b < 34 → C b = I0 b) → ∃ A' ptr' dm', JB (yrN M n C x) (itN (yS P W) n (R, x)).1 P A' ptr' dm' ∧ dm' A' = dm A + n
  | 0, C, R, x, A, ptr, dm, h, _, _, _, _, _, _, _ => ⟨A, ptr, dm, h, rfl⟩
  | n + 1, C, R, x, A, ptr, dm, h, hf, hfr, hD, hC, hm, hm2, h34 => by
    obtain ⟨A1, p1, d1, h1, e1⟩ := year_step h hP1 hP5 hf hfr (by omega) hC (hm.trans hm2.symm) hL h34 hWr hW x
    have e15 : yr1 C x 15 = C 15 := yr_lo x h.r45 (by decide)
    have eX : (yS P W (R, x)).2 = dtX M x := by
      show dtX (R 311 30) x = _
      rw [hm]
    obtain ⟨A2, p2, d2, h2, e2⟩ := years_join hP1 hP5 hL hWr hW (M := M) n (yr1 C x) (yS P W (R, x)).1 (dtX M x) A1 p1 d1 h1 (by rw [yS_n (by decide) (by decide) (by omega), e15]; exact hf) (by rw [e15]; exact hfr) (by omega) (by rw [e15]; exact hC) (by rw [yS_n (by decide) (by decide) (by omega)]; exact hm) (by rw [yr_lo x h.r45 (by decide)]; exact hm2) (fun b hb => by rw [yr_lo x h.r45 (by omega)]; exact h34 b hb)
    refine ⟨A2, p2, d2, ?_, by omega⟩
    rw [yrN_s, itN_s]
    have : yS P W (R, x) = ((yS P W (R, x)).1, dtX M x) := by rw [← eX]
    rw [this]
    exact h2
theorem j_years (hX : JX G I) (n : Int32) (x : Int64) : ∃ (r : Int32) (G1 : GD) (I1 : IM) (G2 : GD) (I2 : IM), Run E (d + 60) mX10_years [.ref 0, .int n, .long x] (0, 0) G I (some (.int r)) G1 I1 ∧ GTs G1 ∧ Run E (d + 60) mX11_years [.ref 311, .int n, .long x] (0, 0) G1 I1 (some (.int r)) G2 I2 ∧ gN G2 = gN G ∧ JX G2 I2 := by
  obtain ⟨hG, hv, -, ⟨N, css, hL⟩, ⟨P, T, hP, A, ptr, dm, hB⟩, -, hO⟩ := id hX
  obtain ⟨I1, hI1, r1⟩ := m_years (E := E) (d := d + 54) hG hP.r0 hL.ok hB.r6 hB.r45 n x
  obtain ⟨W, w1, w2, w3⟩ := hL.wh (E := E) hP
  obtain ⟨h6, hD⟩ := hB.day
  have e50 : I 328 50 = nI (dm A) := (hB.st 0 6 in06).trans h6
  have iff : oYrs I n ↔ oYR P (nI (dm A)) n := by
    unfold oYrs oYR
    rw [hP.2.1.1, h6, P0 hP.1.1]
    exact ⟨fun ⟨a, b, c, e⟩ => ⟨a, ⟨b, c⟩, Int32.not_lt.mpr e⟩, fun ⟨a, ⟨b, c⟩, e⟩ => ⟨a, b, c, Int32.not_lt.mp e⟩⟩
  by_cases c : oYrs I n
  · rw [if_pos c] at hI1 r1
    have c' := iff.mp c
    obtain ⟨m, m1, m2, rfl, m3, m4⟩ := day_ok hD c'.2.1
    have hDm : dm A + m ≤ 999 := m3.mp (Int32.not_lt.mp c'.2.2)
    rw [nI_clamp (by omega)] at hI1 r1
    have hP1 : 1 ≤ P := by have := c'.1; omega
    have c0 : e311 I I1 := fun b hb => by rw [hI1.Z.row (scr_n (by omega)), yrN_far (by omega) m I x hB.r45]
    obtain ⟨A2, p2, d2, h2, e2⟩ := years_join hP1 hP.1.1 hL.ok w2 w3 (M := I 0 16) m I I1 x A ptr dm (hB.e3 c0) (by rw [c0 325 (by decide)]; exact hP.2.2.1.1) hP.2.2.1.2 hDm hP.2.1.1 (by rw [c0 311 (by decide)]; exact hO.2.1) rfl (fun _ _ => rfl)
    obtain ⟨J, y, j1, -, j3⟩ := r_years (E := E) (d := d + 48) hG (e311_ROK c0 (hP.rok hB)) (fun y J hJ => w1 (gD G y) J (gD_ok hG y) (c0.ls.trans hJ)) (fun V p q _ _ _ => w2 V _ _) (nI m) x
    rw [c0 328 (by decide), e50, nI_clamp (by omega)] at j1
    rw [c0 328 (by decide), e50, if_pos c', if_pos c'] at j3
    have jr := j1 c'
    have ea : yrN (I 0 16) m I x 36 6 = J 328 50 := by
      rw [jr.r328]
      exact (h2.st 0 6 in06).symm
    rw [ea] at r1
    refine ⟨_, _, _, _, _, r1, hG, j3, rfl, gD_ok hG y, hv, ?_⟩
    have lo : ∀ b k, b < 311 → J b k = I1 b k := fun b k hb => by rw [jr b k (by omega), yN_n (by omega) (by omega) (by omega)]
    have hJB : JB J J P A2 p2 d2 := h2.fr (fun b k q => by
      rw [lo b k (by unfold rdB at q; omega), hI1.Z b k (by unfold rdB at q; unfold scr; omega)]) (fun b k q => jr b k (by unfold rdBr at q; omega))
    refine hX.2.2.setB hP (fun b k q => ?_) hJB
    unfold rdN rdTp rdL rdP rdS rdO at q
    rw [jr b k (by omega), yN_n (by omega) (by omega) (by omega), hI1.Z b k (by unfold scr; omega), yrN_far (by omega) m I x hB.r45]
  · rw [if_neg c] at hI1 r1
    have c' : ¬ oYR P (nI (dm A)) n := fun z => c (iff.mpr z)
    have c0 : e311 I I1 := fun b hb => hI1.Z.row (scr_n (by omega))
    obtain ⟨J, y, -, j2, j3⟩ := r_years (E := E) (d := d + 48) hG (e311_ROK c0 (hP.rok hB)) (fun y J hJ => w1 (gD G y) J (gD_ok hG y) (c0.ls.trans hJ)) (fun V p q _ _ _ => w2 V _ _) n x
    rw [c0 328 (by decide), e50] at j2
    rw [c0 328 (by decide), e50, if_neg c', if_neg c'] at j3
    have ej := j2 c'
    subst ej
    exact ⟨_, _, _, _, _, r1, hG, j3, rfl, hG, hv, hX.2.2.Z hI1.Z⟩
end
