/-! ===== class and reference: acts ===== -/
theorem putS_up {C : IM} {r k : Nat} {v : Int32} (h : inSt r k) : up2 C (36 + r) k v = putS C 36 (up2 (getS C 36) r k v) := by
  rw [← up2_putS h, putS_self]
section
variable {E : EV} {d : Nat} {G : GD} {I : IM}
theorem kp_st (h : rng (I 45 1) 39) : eqS (getS (kp I) 36) (getS I 36) := fun r k hk => by
  unfold inSt at hk
  show kp I (36 + r) k = I (36 + r) k
  rw [kp_far (by omega) h]
theorem kp_311 (h : rng (I 45 1) 39) : e311 I (kp I) := fun b hb => kp_far (by omega) h
theorem act_join {P T A ptr : Nat} {dm : Nat → Nat} (h : JI I) (hP : JP I P T) (hB : JB I I P A ptr dm) (hP1 : 1 ≤ P) {V V' : SV} (hV : SVok P V) (h6 : V 0 6 = I 36 6) (e : eqS V' V) {I1 J : IM} (hC : eqZ (putS (kp I) 36 V) I1) (hJ : eqR (kR I1) J) : JI (rp J V') := by
  have r45 := hB.r45
  obtain ⟨A', ptr', dm', hK, -, -, -⟩ := hB.keep
  have hS := hK.set hP1 hV (by rw [h6, kp_far (by decide) r45]) e
  have c0 : ∀ b, 311 ≤ b → I1 b = I b := fun b hb => by rw [hC.row (scr_n (by omega)), putS_far (by omega), kp_far (by omega) r45]
  have lo : ∀ b k, b < 311 → rp J V' b k = I1 b k := fun b k hb => by rw [rp_lo hb, hJ b k (by omega), kR_lo hb]
  have hJB : JB (rp J V') (rp J V') P A' ptr' dm' := hS.fr (fun b k q => by
    rw [lo b k (by unfold rdB at q; omega), hC b k (by unfold rdB at q; unfold scr; omega)]) (fun b k q => by
    have ek : kR I1 b = kR I b := e311_kR (I := I) (J := I1) c0 b (by unfold rdBr at q; omega)
    unfold rp
    by_cases z : b = 328 ∧ k < 51
    · rw [if_pos z, if_pos z]
    · rw [if_neg z, if_neg z, hJ b k (by unfold rdBr at q; omega), ek])
  refine h.setB hP (fun b k q => ?_) hJB
  unfold rdN rdTp rdL rdP rdS rdO at q
  by_cases z : b < 311
  · rw [lo b k z, hC b k (by unfold scr; omega), putS_far (by omega), kp_far (by omega) r45]
  · rw [rp_ne (by omega), hJ b k (by omega)]
    by_cases z2 : b = 311
    · subst z2
      show kpR I1 _ 311 k = _
      rw [kpR_311 (by omega), c0 311 (by decide)]
    · rw [kR_ne (by omega) z2, c0 b (by omega)]
theorem wG_eq {P T A ptr : Nat} {dm : Nat → Nat} (hP : JP I P T) (hB : JB I I P A ptr dm) (n : Int32) : wGR P (rv I) n = wGiv I n := by
  unfold wGR wGiv
  rw [hP.2.1.1, hB.st 0 5 in05, show getS I 36 0 5 = I 36 5 from rfl]
  by_cases c : P = 0
  · rw [if_pos c, if_pos ((P0 hP.1.1).mpr c)]
  · rw [if_neg c, if_neg (fun z => c ((P0 hP.1.1).mp z))]
    by_cases c2 : n < 1 ∨ 50 < n ∨ ¬ I 36 5 + n ≤ 999
    · rw [if_pos c2, if_pos]
      rcases c2 with z | z | z
      · exact Or.inl (fun q => q.1 z)
      · exact Or.inl (fun q => q.2 z)
      · exact Or.inr z
    · rw [if_neg c2, if_neg]
      rintro (z | z)
      · exact z ⟨fun q => c2 (Or.inl q), fun q => c2 (Or.inr (Or.inl q))⟩
      · exact c2 (Or.inr (Or.inr z))
theorem nRf_311 {w : Int32} : e311 I (nRf I w) := fun b hb => by
  unfold nRf rfI
  rw [up2_ne (by omega)]
theorem j_give (hX : JX G I) (n : Int32) : JRes E d G I mX10_give mX11_give [.int n] := by
  obtain ⟨hG, hv, -, -, ⟨P, T, hP, A, ptr, dm, hB⟩, -, -⟩ := id hX
  have r1 := m_give (E := E) (d := d + 57) hG hB.r45 n
  have hw := wG_eq hP hB n
  by_cases c : wGiv I n = -1
  · rw [if_pos c, if_pos c] at r1
    have hP1 : 1 ≤ P := by
      by_cases z : P = 0
      · exfalso
        unfold wGiv at c
        rw [hP.2.1.1, if_pos ((P0 hP.1.1).mpr z)] at c
        exact absurd c (by decide)
      · omega
    have hk := kp_st hB.r45
    have e5 : kp I 36 5 = I 36 5 := hk 0 5 in05
    have hn : nGiv I n = putS (kp I) 36 (up2 (getS I 36) 0 5 (I 36 5 + n)) := by
      unfold nGiv
      rw [e5, show (36 : Nat) = 36 + 0 from rfl, putS_up in05]
      exact putS_congr (eqS_up2 hk)
    have c0 : e311 I (nGiv I n) := fun b hb => by rw [hn, putS_far (by omega), kp_311 hB.r45 b hb]
    have ea : nGiv I n 36 5 = I 36 5 + n := by
      unfold nGiv
      rw [up2_sa, e5]
    have r2 := r_give (E := E) (d := d + 58) hG (e311_ROK c0 (hP.rok hB)) n
    rw [c0.rv, hw, if_pos c, if_pos c, hB.st 0 5 in05] at r2
    rw [ea] at r1
    refine ⟨_, _, _, _, _, r1, hG, r2, rfl, hG, hv, ?_⟩
    exact act_join hX.2.2 hP hB hP1 (c5_ok hB.ok) (up2_nk (by decide)) (eqS_up2 hB.st) (by rw [hn]; exact eqZ.rf) eqR.rf
  · rw [if_neg c, if_neg c] at r1
    have r2 := r_give (E := E) (d := d + 58) hG (e311_ROK (nRf_311 (w := wGiv I n)) (hP.rok hB)) n
    rw [nRf_311.rv, hw, if_neg c, if_neg c] at r2
    exact ⟨_, _, _, _, _, r1, hG, r2, rfl, hG, hv, rf_join hX.2.2 (by rw [← hw] at c ⊢; exact (wGR_r P (rv I) n).resolve_left c)⟩
theorem pl_eq {P T A ptr : Nat} {dm : Nat → Nat} (hB : JB I I P A ptr dm) (g : Int32) : isPl (rv I) g ↔ isG I g := by
  unfold isPl isG
  constructor
  · rintro ⟨a, b, c⟩
    obtain ⟨k, hk, rfl⟩ := pl_ix (V := rv I) (g := g) ⟨a, b, c⟩
    rw [nI_clamp (by omega)] at c ⊢
    rw [hB.st 3 k (inSt_r (by decide) (by decide) hk)] at c
    exact ⟨a, b, c⟩
  · rintro ⟨a, b, c⟩
    have hv := vp12 a b
    obtain ⟨k, hk, rfl⟩ : ∃ k, k < 12 ∧ g = nI k := pn_lt (P := 12) ⟨a, b⟩
    rw [nI_clamp (by omega)] at c ⊢
    rw [hB.st 3 k (inSt_r (by decide) (by decide) hk)]
    exact ⟨a, b, c⟩
theorem G_ix {g : Int32} (h : isG I g) : ∃ k, k < 12 ∧ g = nI k := pn_lt (P := 12) ⟨h.1, h.2.1⟩
theorem G_P {P A ptr : Nat} {dm : Nat → Nat} (hB : JB I I P A ptr dm) {g : Int32} (h : isG I g) : 1 ≤ P := by
  obtain ⟨k, hk, rfl⟩ := G_ix h
  have h3 := h.2.2
  rw [nI_clamp (by omega)] at h3
  by_cases z : P = 0
  · exact absurd (by rw [hB.none z k hk]; exact le00) h3
  · omega
theorem up3_ok' {P : Nat} {V : SV} (hV : SVok P V) (k : Nat) : SVok P (up2 V 3 k 0) := up3_ok (w := 0) hV (by decide)
theorem j_forgives (hX : JX G I) (g : Int32) : JRes E d G I mX10_forgives mX11_forgives [.int g] := by
  obtain ⟨hG, hv, -, -, ⟨P, T, hP, A, ptr, dm, hB⟩, -, -⟩ := id hX
  have r1 := m_forgives (E := E) (d := d + 56) hG hB.r45 g
  have hw : wFR (rv I) g = wFor I g := by
    unfold wFR wFor
    by_cases c : isG I g
    · obtain ⟨k, hk, rfl⟩ := G_ix c
      rw [if_neg (show ¬ ¬ isPl (rv I) (nI k) from fun z => z ((pl_eq (T := T) hB _).mpr c)), if_neg (show ¬ ¬ isG I (nI k) from fun z => z c), nI_clamp (by omega), hB.st 0 4 in04, hB.st 1 k (inSt_r (by decide) (by decide) hk)]
      rfl
    · rw [if_pos (show ¬ isPl (rv I) g from fun z => c ((pl_eq (T := T) hB _).mp z)), if_pos (show ¬ isG I g from c)]
  by_cases c : wFor I g = -1
  · rw [if_pos c, if_pos c] at r1
    have cg : isG I g := Decidable.not_not.mp (fun z => by
      unfold wFor at c
      rw [if_pos z] at c
      exact absurd c (by decide))
    have hP1 := G_P hB cg
    obtain ⟨k, hk, rfl⟩ := G_ix cg
    have hkk := kp_st hB.r45
    have i3 : inSt 3 k := inSt_r (by decide) (by decide) hk
    have hn : nFor I (nI k) = putS (kp I) 36 (up2 (getS I 36) 3 k 0) := by
      unfold nFor
      rw [nI_clamp (by omega), show (39 : Nat) = 36 + 3 from rfl, putS_up i3]
      exact putS_congr (eqS_up2 hkk)
    have c0 : e311 I (nFor I (nI k)) := fun b hb => by rw [hn, putS_far (by omega), kp_311 hB.r45 b hb]
    have r2 := r_forgives (E := E) (d := d + 56) hG (e311_ROK c0 (hP.rok hB)) (nI k)
    rw [c0.rv, hw, if_pos c, if_pos c, nI_clamp (show k < 2 ^ 31 by omega)] at r2
    rw [nI_clamp (show k < 2 ^ 31 by omega)] at r1
    have ea : bcI (hwF (nFor I (nI k) 39) (nFor I (nI k) 38) (nFor I (nI k) 38 k)) = bcI (hwF (up2 (rv I) 3 k 0 3) (rv I 2) (rv I 2 k)) := by
      have f3 : ∀ j, j < 12 → nFor I (nI k) 39 j = up2 (rv I) 3 k 0 3 j := fun j hj => by
        rw [hn, show (39 : Nat) = 36 + 3 from rfl, putS_in (inSt_r (by decide) (by decide) hj), up2_at, up2_at, hB.st 3 j (inSt_r (by decide) (by decide) hj)]
      have f2 : ∀ j, j < 12 → nFor I (nI k) 38 j = rv I 2 j := fun j hj => by
        rw [hn, show (38 : Nat) = 36 + 2 from rfl, putS_in (inSt_r (by decide) (by decide) hj), up2_ne (by decide), hB.st 2 j (inSt_r (by decide) (by decide) hj)]
      rw [f2 k hk, hw_congr f3 f2]
    rw [ea] at r1
    refine ⟨_, _, _, _, _, r1, hG, r2, rfl, hG, hv, ?_⟩
    exact act_join hX.2.2 hP hB hP1 (up3_ok' hB.ok k) (by rw [up2_ne (by decide)]; rfl) (eqS_up2 hB.st) (by rw [hn]; exact eqZ.rf) eqR.rf
  · rw [if_neg c, if_neg c] at r1
    have r2 := r_forgives (E := E) (d := d + 56) hG (e311_ROK (nRf_311 (w := wFor I g)) (hP.rok hB)) g
    rw [nRf_311.rv, hw, if_neg c, if_neg c] at r2
    exact ⟨_, _, _, _, _, r1, hG, r2, rfl, hG, hv, rf_join hX.2.2 (by rw [← hw] at c ⊢; exact (wFR_r (rv I) g).resolve_left c)⟩
theorem k4_ok {P : Nat} {V : SV} {k : Nat} {x : Int32} (hV : SVok P V) (hx : ¬ x < 0 ∧ ¬ 2 < x) : SVok P (up2 V 4 k x) := by
  obtain ⟨m, -, hm, rfl⟩ := in_i (x := x) (a := 0) (b := 2) (by decide) hx (by decide)
  refine ⟨fun j hj => ?_, by rw [up2_ne (by decide)]; exact hV.2⟩
  obtain ⟨h1, h2, h3, h4⟩ := hV.1 j hj
  refine ⟨by rw [up2_ne (by decide)]; exact h1, by rw [up2_ne (by decide)]; exact h2, by rw [up2_ne (by decide)]; exact h3, ?_⟩
  rw [up2_at]
  by_cases z : j = k
  · rw [if_pos z]
    exact ⟨m, hm, rfl⟩
  · rw [if_neg z]
    exact h4
theorem j_becomes (hX : JX G I) (g x : Int32) : JRes E d G I mX10_becomes mX11_becomes [.int g, .int x] := by
  obtain ⟨hG, hv, -, -, ⟨P, T, hP, A, ptr, dm, hB⟩, -, -⟩ := id hX
  have r1 := m_becomes (E := E) (d := d + 56) hG hB.r45 g x
  have hw : wBR (rv I) g x = wBec I g x := by
    unfold wBR wBec
    by_cases c : isG I g
    · obtain ⟨k, hk, rfl⟩ := G_ix c
      rw [if_neg (show ¬ ¬ isPl (rv I) (nI k) from fun z => z ((pl_eq (T := T) hB _).mpr c)), if_neg (show ¬ ¬ isG I (nI k) from fun z => z c), nI_clamp (by omega), hB.st 0 5 in05, hB.st 4 k (inSt_r (by decide) (by decide) hk), show getS I 36 0 5 = I 36 5 from rfl, show getS I 36 4 k = I 40 k from rfl]
      by_cases c2 : ¬ x < 0 ∧ ¬ 2 < x
      · rw [if_neg (fun z => z c2), if_neg (show ¬ (x < 0 ∨ ¬ x ≤ 2) from by rintro (z | z); exact c2.1 z; exact z (Int32.not_lt.mp c2.2))]
        by_cases c3 : I 40 k = x
        · rw [if_pos c3, if_pos c3.symm]
        · rw [if_neg c3, if_neg (show ¬ x = I 40 k from fun z => c3 z.symm)]
      · rw [if_pos c2, if_pos]
        by_cases z : x < 0
        · exact Or.inl z
        · exact Or.inr (fun q => c2 ⟨z, Int32.not_lt.mpr q⟩)
    · rw [if_pos (show ¬ isPl (rv I) g from fun z => c ((pl_eq (T := T) hB _).mp z)), if_pos (show ¬ isG I g from c)]
  by_cases c : wBec I g x = -1
  · rw [if_pos c, if_pos c] at r1
    have cg : isG I g := Decidable.not_not.mp (fun z => by
      unfold wBec at c
      rw [if_pos z] at c
      exact absurd c (by decide))
    have cx : ¬ x < 0 ∧ ¬ 2 < x := Decidable.not_not.mp (fun z => by
      rw [← hw] at c
      unfold wBR at c
      rw [if_neg (fun z => z ((pl_eq (T := T) hB _).mpr cg)), if_pos z] at c
      exact absurd c (by decide))
    have hP1 := G_P hB cg
    obtain ⟨k, hk, rfl⟩ := G_ix cg
    have hkk := kp_st hB.r45
    have i4 : inSt 4 k := inSt_r (by decide) (by decide) hk
    have e5 : kp I 36 5 = I 36 5 := hkk 0 5 in05
    have hn : nBec I (nI k) x = putS (kp I) 36 (up2 (up2 (getS I 36) 0 5 (I 36 5 - 2)) 4 k x) := by
      unfold nBec k1I
      rw [nI_clamp (by omega), e5]
      have q1 : up2 (kp I) 36 5 (I 36 5 - 2) = putS (kp I) 36 (up2 (getS I 36) 0 5 (I 36 5 - 2)) := by
        rw [show (36 : Nat) = 36 + 0 from rfl, putS_up in05]
        exact putS_congr (eqS_up2 hkk)
      rw [q1, show (40 : Nat) = 36 + 4 from rfl, up2_putS i4]
    have c0 : e311 I (nBec I (nI k) x) := fun b hb => by rw [hn, putS_far (by omega), kp_311 hB.r45 b hb]
    have r2 := r_becomes (E := E) (d := d + 57) hG (e311_ROK c0 (hP.rok hB)) (nI k) x
    rw [c0.rv, hw, if_pos c, if_pos c, nI_clamp (show k < 2 ^ 31 by omega), hB.st 4 k i4, hB.st 0 5 in05] at r2
    rw [nI_clamp (show k < 2 ^ 31 by omega)] at r1
    refine ⟨_, _, _, _, _, r1, hG, r2, rfl, hG, hv, ?_⟩
    exact act_join hX.2.2 hP hB hP1 (k4_ok (c5_ok hB.ok) cx) (by rw [up2_ne (by decide), up2_nk (by decide)]; rfl) (eqS_up2 (eqS_up2 hB.st)) (by rw [hn]; exact eqZ.rf) eqR.rf
  · rw [if_neg c, if_neg c] at r1
    have r2 := r_becomes (E := E) (d := d + 57) hG (e311_ROK (nRf_311 (w := wBec I g x)) (hP.rok hB)) g x
    rw [nRf_311.rv, hw, if_neg c, if_neg c] at r2
    exact ⟨_, _, _, _, _, r1, hG, r2, rfl, hG, hv, rf_join hX.2.2 (by rw [← hw] at c ⊢; exact (wBR_r (rv I) g x).resolve_left c)⟩
theorem wgt_kp (hL : LawOK I) (h45 : rng (I 45 1) 39) {V : SV} : wgt (putS (kp I) 36 V) = wgt I := by
  funext W p q
  exact wgt_frame (fun b hb => by rw [putS_far (by omega), kp_far (by omega) h45]) hL
theorem X_lo {J K : IM} (h : eqX J K) : eqZ J K := h.Z
theorem j_offends (hX : JX G I) (p q : Int32) : JRes E d G I mX10_offends mX11_offends [.int p, .int q] := by
  obtain ⟨hG, hv, -, ⟨N, css, hL⟩, ⟨P, T, hP, A, ptr, dm, hB⟩, -, -⟩ := id hX
  obtain ⟨I1, hI1, r1⟩ := m_offends (E := E) (d := d + 55) hG hP.r0 hL.ok hB.r45 p q
  obtain ⟨W, w1, w2, w3⟩ := hL.wh (E := E) hP
  have hlow : lowF (rv I 3) 12 0 = lowF (I 39) 12 0 := eqS_low hB.st
  have hw : wOR P (rv I) p q = wOff I p q := by
    unfold wOR wOff isP
    rw [hP.2.1.1, hB.st 0 4 in04, hB.st 0 5 in05, hlow]
    rfl
  by_cases c : wOff I p q = -1
  · rw [if_pos c] at hI1 r1
    have cc := c
    unfold wOff isP at cc
    rw [hP.2.1.1] at cc
    have c1 : (¬ p < 0 ∧ ¬ nI P ≤ p) ∧ (¬ q < 0 ∧ ¬ nI P ≤ q) := by
      by_cases z : ¬ (¬ p < 0 ∧ ¬ nI P ≤ p) ∨ ¬ (¬ q < 0 ∧ ¬ nI P ≤ q)
      · rw [if_pos z] at cc
        exact absurd cc (by decide)
      · exact ⟨Decidable.not_not.mp (fun y => z (Or.inl y)), Decidable.not_not.mp (fun y => z (Or.inr y))⟩
    rw [if_neg (show ¬ (¬ (¬ p < 0 ∧ ¬ nI P ≤ p) ∨ ¬ (¬ q < 0 ∧ ¬ nI P ≤ q)) from by rintro (z | z); exact z c1.1; exact z c1.2)] at cc
    have c3 : ¬ lowF (I 39) 12 0 = -1 := fun z => by
      by_cases y1 : p = q
      · rw [if_pos y1] at cc
        exact absurd cc (by decide)
      · rw [if_neg y1] at cc
        by_cases y2 : ¬ inT (I 36 4) q
        · rw [if_pos y2] at cc
          exact absurd cc (by decide)
        · rw [if_neg y2, if_pos (Or.inr z)] at cc
          exact absurd cc (by decide)
    obtain ⟨a, ha, rfl⟩ := pn_lt c1.1
    obtain ⟨b, hb, rfl⟩ := pn_lt c1.2
    have hP1 : 1 ≤ P := by omega
    have hkk := kp_st hB.r45
    have e5 : kp I 36 5 = I 36 5 := hkk 0 5 in05
    generalize hV1 : up2 (getS I 36) 0 5 (I 36 5 - 1) = V1
    have q1 : k1I I 1 = putS (kp I) 36 V1 := by
      unfold k1I
      rw [e5, show (36 : Nat) = 36 + 0 from rfl, putS_up in05, ← hV1]
      exact putS_congr (eqS_up2 hkk)
    have hok : SVok P V1 := by rw [← hV1]; exact c5_ok hB.ok
    have d1 : V1 0 6 = I 36 6 := by rw [← hV1, up2_nk (by decide)]; rfl
    have l1 : ¬ lowF (V1 3) 12 0 = -1 := by rw [← hV1, up2_ne (by decide)]; exact c3
    have hn : nOff I (nI a) (nI b) = putS (kp I) 36 (ofV (wgt I) V1 (nI a) (nI b)) := by
      unfold nOff
      rw [q1, putS_putS, wgt_kp hL.ok hB.r45]
      exact putS_congr (eqS_of getS_putS _ _)
    have hZ : eqZ (putS (kp I) 36 (ofV (wgt I) V1 (nI a) (nI b))) I1 := by rw [← hn]; exact hI1.Z
    have c0 : e311 I I1 := fun x hx => by rw [hZ.row (scr_n (by omega)), putS_far (by omega), kp_311 hB.r45 x hx]
    have hls : lsE I (kR I1) := (c0.ls).trans (lsE_kR I1)
    obtain ⟨J, j1, j2⟩ := r_offends (E := E) (d := d + 50) hG (e311_ROK c0 (hP.rok hB)) (w1 G (kR I1) hG hls) (nI a) (nI b)
    rw [c0.rv, hw, if_pos c, if_pos c, hlow] at j2
    have hjr := j1 (by rw [c0.rv, hw]; exact c)
    refine ⟨_, _, _, _, _, r1, hG, j2, rfl, hG, hv, ?_⟩
    refine act_join hX.2.2 hP hB hP1 (V := ofV (wgt I) V1 (nI a) (nI b)) ?_ (by rw [of_day]; exact d1) ?_ hZ hjr
    · refine of_ok hP.1.1 hok ha hb l1 ?_
      rw [← w3 _ (r9999 hB.r6) V1 a b d1 ha hb]
      exact w2 _ _ _
    · have eV : eqS (up2 (rv I) 0 5 (rv I 0 5 - 1)) V1 := by
        rw [← hV1, hB.st 0 5 in05]
        exact eqS_up2 hB.st
      have e0 : ofV W (up2 (rv I) 0 5 (rv I 0 5 - 1)) (nI a) (nI b) = ofV (wgt I) (up2 (rv I) 0 5 (rv I 0 5 - 1)) (nI a) (nI b) := by
        unfold ofV
        rw [w3 _ (r9999 hB.r6) _ a b (by rw [eV 0 6 in06]; exact d1) ha hb]
      rw [e0]
      exact eqS_of eV _ _
  · rw [if_neg c] at hI1 r1
    have c0 : e311 I I1 := fun x hx => by rw [hI1.Z.row (scr_n (by omega)), nRf_311 x hx]
    obtain ⟨J, j1, j2⟩ := r_offends (E := E) (d := d + 50) hG (e311_ROK c0 (hP.rok hB)) (w1 G (kR I1) hG ((c0.ls).trans (lsE_kR I1))) p q
    rw [c0.rv, hw, if_neg c, if_neg c] at j2
    refine ⟨_, _, _, _, _, r1, hG, j2, rfl, hG, hv, ?_⟩
    have hk : ∃ k, k < 5 ∧ wOff I p q = nI k := by
      rw [← hw]
      exact (wOR_r P (rv I) p q).resolve_left (by rw [hw]; exact c)
    have hj := rf_join hX.2.2 hk
    refine hj.Z (fun b k q9 => ?_)
    obtain ⟨k5, hk5, ek⟩ := hk
    unfold rfR
    rw [ek, nI_clamp (by omega)]
    by_cases z : b = 329 ∧ k = k5
    · obtain ⟨rfl, rfl⟩ := z
      rw [up2_sa, up2_sa, c0 329 (by decide), nRf_311 329 (by decide)]
    · rw [up2_o z, up2_o z, ← ek]
      exact hI1.Z b k q9
end
