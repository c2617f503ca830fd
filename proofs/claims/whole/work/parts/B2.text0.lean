/-! ===== class and reference: a town told ===== -/
theorem itm_m1 (lt : Nat → Int32) (n : Nat) : itm lt n (-1) < 0 := by
  have : itm lt n (-1) = -1 := if_pos rfl
  rw [this]
  decide
/-- what items are without a fault: as they were, or within bounds -/
theorem ri_rg {row : Nat → Int32} {L : Nat} (hL : L ≤ 240) {lt : Nat → Int32} {n : Nat} {lo hi : Nat → Int32} : ∀ (k : Nat) (had : Int32) (a : Nat) (it : Nat → Int32), a ≤ L → (riL row L lt n lo hi k had a (-1) it).2.1 = -1 → ∀ j, (riL row L lt n lo hi k had a (-1) it).2.2 j = it j ∨ (¬ (riL row L lt n lo hi k had a (-1) it).2.2 j < lo j ∧ (riL row L lt n lo hi k had a (-1) it).2.2 j ≤ hi j)
  | 0, _, _, _, _, _, _ => Or.inl rfl
  | k + 1, had, a, it, ha, hF, j => by
    rw [riL_s] at hF ⊢
    by_cases c : itm lt n (nxR row L a (-1)) < 0 ∨ inT had (itm lt n (nxR row L a (-1)))
    · rw [if_pos c]
      exact Or.inl rfl
    · rw [if_neg c] at hF ⊢
      have hs : sk row L a < L := pkin (row := row) (L := L) (a := a) rfl (fun z => c (Or.inl (by rw [(nx_m1 row L a).1, z]; exact itm_m1 lt n)))
      have hta : tkA L (nxA row L a (-1)) = sk row L a + 1 := if_pos hs
      have hp1 := nmF_ge row (m := 2) (-1) (show tkA L (nxA row L a (-1)) ≤ L by rw [hta]; omega)
      have hp2 := nmF_le row (m := 2) (-1) (show tkA L (nxA row L a (-1)) ≤ L by rw [hta]; omega)
      generalize hv : (nmF row L 2 (tkA L (nxA row L a (-1))) (-1)).1 = v at *
      generalize hp : (nmF row L 2 (tkA L (nxA row L a (-1))) (-1)).2.1 = p2 at *
      generalize hF2 : (nmF row L 2 (tkA L (nxA row L a (-1))) (-1)).2.2 = F2 at *
      generalize hi' : (itm lt n (nxR row L a (-1))).toNatClampNeg = ix at *
      rw [hta] at hp1
      generalize hFF : (if v < lo ix ∨ ¬ v ≤ hi ix then (if F2 = -1 then nI p2 - 1 else F2) else F2) = F1 at *
      by_cases cF : F1 = -1
      · subst cF
        have inr : ¬ v < lo ix ∧ v ≤ hi ix := by
          by_cases z : v < lo ix ∨ ¬ v ≤ hi ix
          · exfalso
            rw [if_pos z] at hFF
            by_cases z2 : F2 = -1
            · rw [if_pos z2] at hFF
              obtain ⟨q, rfl⟩ : ∃ q, p2 = q + 1 := ⟨p2 - 1, by omega⟩
              rw [nI_pred] at hFF
              exact nI_m1 (by omega) hFF
            · rw [if_neg z2] at hFF
              exact z2 hFF
          · exact ⟨fun y => z (Or.inl y), Decidable.not_not.mp (fun y => z (Or.inr y))⟩
        rcases ri_rg hL k _ p2 _ hp2 hF j with e | e
        · rw [e]
          unfold upd
          by_cases ej : j = ix
          · rw [if_pos ej]
            subst ej
            exact Or.inr inr
          · rw [if_neg ej]
            exact Or.inl rfl
        · exact Or.inr e
      · exact absurd ((riL_F row L lt n lo hi k _ p2 cF _).symm.trans hF) cF
theorem rg_in {v lo hi : Int32} {m : Nat} (h : ¬ v < lo ∧ v ≤ hi) (hlo : 0 ≤ lo) (hhi : hi = nI m) (hm : m < 1000) : rng v m := by
  obtain ⟨k, -, h2, e⟩ := in_i (x := v) (a := 0) (b := m) (by omega) ⟨fun z => h.1 (Int32.lt_of_lt_of_le z hlo), by rw [← hhi]; exact Int32.not_lt.mpr h.2⟩ (by decide)
  exact ⟨k, h2, e⟩
/-- a town as it is read -/
def KI (K : IM) (p g : Nat) : Prop := (K 4 0 = nI p ∧ K 4 1 = nI g ∧ p ≤ 5 ∧ g ≤ 10) ∧ rng (K 4 2) 9 ∧ (∀ q, q < p → rng (K 5 q) 9 ∧ rng (K 6 q) 9) ∧ (∀ h, h < g → rng (K 8 h) 4 ∧ rng (K 9 h) 4 ∧ rng (K 10 h) 30 ∧ rng (K 11 h) 2) ∧ (∀ r h, r < 4 → g ≤ h → h < 12 → K (8 + r) h = 0) ∧ K 7 6 = 0
theorem KI.tc {L : Nat} (hL : L ≤ 240) {K : IM} {p g : Nat} (h : KI K p g) (hv : GVv K) {a : Nat} (ha : a ≤ L) (hF : (tcF L K a (-1)).2.2 = -1) : ∃ p' g', KI (tcF L K a (-1)).1 p' g' := by
  obtain ⟨⟨h1, h2, h3, h4⟩, h5, h6, h7, h8, h9⟩ := h
  obtain ⟨v1, v2, v3⟩ := hv
  rw [tc_m1] at hF ⊢
  have ta : ∀ {x}, x ≤ L → tkA L x ≤ L := fun hx => tkA_le hx
  have hs := sk_le (K 2) ha
  by_cases c1 : pk (K 2) L a = 115 ∧ K 3 3 = 0
  · rw [if_pos c1] at hF ⊢
    have rg := ri_rg hL 3 0 (tkA L (sk (K 2) L a)) (its4 1 20 0 0 (K 14)) (ta hs.2) hF 0
    have r0 : rng ((rrF K L (sk (K 2) L a) (-1)).2.2 0) 9 := by
      rcases rg with e | e
      · exact ⟨1, by decide, e⟩
      · exact rg_in e (by rw [(v1.2 0 (by decide)).1]; decide) (by rw [(v1.2 0 (by decide)).2]; decide) (by decide)
    refine ⟨p, g, ⟨?_, ?_, h3, h4⟩, ?_, fun q hq => ?_, fun q hq => ?_, fun r q hr hg hq => ?_, ?_⟩
    · show rrI K (rrF K L (sk (K 2) L a) (-1)).2.2 4 0 = _
      rw [rr_4 K _ (by decide)]; exact h1
    · show rrI K (rrF K L (sk (K 2) L a) (-1)).2.2 4 1 = _
      rw [rr_4 K _ (by decide)]; exact h2
    · show rng (rrI K (rrF K L (sk (K 2) L a) (-1)).2.2 4 2) 9
      unfold rrI
      rw [up2_ne (by decide), up2_ne (by decide), up2_sa]
      exact r0
    · show rng (rrI K (rrF K L (sk (K 2) L a) (-1)).2.2 5 q) 9 ∧ rng (rrI K (rrF K L (sk (K 2) L a) (-1)).2.2 6 q) 9
      unfold rrI
      rw [up2_ne (by decide), up2_ne (by decide), up2_ne (by decide), rwI_ne (by decide), up2_ne (by decide), up2_ne (by decide), up2_ne (by decide), rwI_ne (by decide)]
      exact h6 q hq
    · have e : ∀ x, 8 ≤ x → x ≤ 11 → rrI K (rrF K L (sk (K 2) L a) (-1)).2.2 x = K x := fun x x1 x2 => by
        unfold rrI
        rw [up2_ne (by omega), up2_ne (by omega), up2_ne (by omega), rwI_ne (by omega)]
      show rng (rrI K (rrF K L (sk (K 2) L a) (-1)).2.2 8 q) 4 ∧ rng (rrI K (rrF K L (sk (K 2) L a) (-1)).2.2 9 q) 4 ∧ rng (rrI K (rrF K L (sk (K 2) L a) (-1)).2.2 10 q) 30 ∧ rng (rrI K (rrF K L (sk (K 2) L a) (-1)).2.2 11 q) 2
      rw [e 8 (by decide) (by decide), e 9 (by decide) (by decide), e 10 (by decide) (by decide), e 11 (by decide) (by decide)]
      exact h7 q hq
    · show rrI K (rrF K L (sk (K 2) L a) (-1)).2.2 (8 + r) q = 0
      unfold rrI
      rw [up2_ne (by omega), up2_ne (by omega), up2_ne (by omega), rwI_ne (by omega)]
      exact h8 r q hr hg hq
    · show rrI K (rrF K L (sk (K 2) L a) (-1)).2.2 7 6 = 0
      unfold rrI
      rw [up2_ne (by decide), up2_nk (by decide), up2_ne (by decide), rwI_ne (by decide)]
      exact h9
  · rw [if_neg c1] at hF ⊢
    by_cases c2 : pk (K 2) L a = 112 ∧ ¬ 5 ≤ K 4 0
    · rw [if_pos c2] at hF ⊢
      have hp5 : p < 5 := by
        by_cases z : p < 5
        · exact z
        · exact absurd (by rw [h1]; exact nI_le (a := 5) (by omega) (by omega)) c2.2
      have rg := ri_rg hL 3 0 (tkA L (sk (K 2) L a)) (its4 4 3 0 0 (K 14)) (ta hs.2) hF
      have r0 : rng ((rpF K L (sk (K 2) L a) (-1)).2.2 0) 9 := by
        rcases rg 0 with e | e
        · exact ⟨4, by decide, e⟩
        · exact rg_in e (by rw [(v2.2 0 (by decide)).1]; decide) (by rw [(v2.2 0 (by decide)).2]; decide) (by decide)
      have r1 : rng ((rpF K L (sk (K 2) L a) (-1)).2.2 1) 9 := by
        rcases rg 1 with e | e
        · exact ⟨3, by decide, e⟩
        · exact rg_in e (by rw [(v2.2 1 (by decide)).1]; decide) (by rw [(v2.2 1 (by decide)).2]; decide) (by decide)
      have ep : (K 4 0).toNatClampNeg = p := by rw [h1, nI_clamp (by omega)]
      rw [ep]
      refine ⟨p + 1, g, ⟨rp_40 K (rpF K L (sk (K 2) L a) (-1)).2.2 p, ?_, by omega, h4⟩, ?_, fun q hq => ?_, fun q hq => ?_, fun r q hr hg hq => ?_, ?_⟩
      · show rpI K (rpF K L (sk (K 2) L a) (-1)).2.2 p 4 1 = _
        rw [rp_41]; exact h2
      · show rng (rpI K (rpF K L (sk (K 2) L a) (-1)).2.2 p 4 2) 9
        unfold rpI
        rw [up2_nk (by decide), up2_ne (by decide), up2_ne (by decide), rwI_ne (by decide)]
        exact h5
      · show rng (rpI K (rpF K L (sk (K 2) L a) (-1)).2.2 p 5 q) 9 ∧ rng (rpI K (rpF K L (sk (K 2) L a) (-1)).2.2 p 6 q) 9
        unfold rpI
        rw [up2_ne (show (5 : Nat) ≠ 4 by decide), up2_ne (show (5 : Nat) ≠ 6 by decide), up2_ne (show (6 : Nat) ≠ 4 by decide), up2_at, up2_at, up2_ne (show (6 : Nat) ≠ 5 by decide), rwI_ne (show (5 : Nat) ≠ 14 by decide), rwI_ne (show (6 : Nat) ≠ 14 by decide)]
        by_cases e : q = p
        · rw [if_pos e, if_pos e]
          exact ⟨r0, r1⟩
        · rw [if_neg e, if_neg e]
          exact h6 q (by omega)
      · have e : ∀ x, 8 ≤ x → x ≤ 11 → rpI K (rpF K L (sk (K 2) L a) (-1)).2.2 p x = K x := fun x x1 x2 => by
          unfold rpI
          rw [up2_ne (by omega), up2_ne (by omega), up2_ne (by omega), rwI_ne (by omega)]
        show rng (rpI K (rpF K L (sk (K 2) L a) (-1)).2.2 p 8 q) 4 ∧ rng (rpI K (rpF K L (sk (K 2) L a) (-1)).2.2 p 9 q) 4 ∧ rng (rpI K (rpF K L (sk (K 2) L a) (-1)).2.2 p 10 q) 30 ∧ rng (rpI K (rpF K L (sk (K 2) L a) (-1)).2.2 p 11 q) 2
        rw [e 8 (by decide) (by decide), e 9 (by decide) (by decide), e 10 (by decide) (by decide), e 11 (by decide) (by decide)]
        exact h7 q hq
      · show rpI K (rpF K L (sk (K 2) L a) (-1)).2.2 p (8 + r) q = 0
        unfold rpI
        rw [up2_ne (by omega), up2_ne (by omega), up2_ne (by omega), rwI_ne (by omega)]
        exact h8 r q hr hg hq
      · show rpI K (rpF K L (sk (K 2) L a) (-1)).2.2 p 7 6 = 0
        unfold rpI
        rw [up2_ne (by decide), up2_ne (by decide), up2_ne (by decide), rwI_ne (by decide)]
        exact h9
    · rw [if_neg c2] at hF ⊢
      by_cases c3 : pk (K 2) L a = 103 ∧ ¬ 10 ≤ K 4 1
      · rw [if_pos c3] at hF ⊢
        have hg10 : g < 10 := by
          by_cases z : g < 10
          · exact z
          · exact absurd (by rw [h2]; exact nI_le (a := 10) (by omega) (by omega)) c3.2
        have rg := ri_rg hL 5 0 (tkA L (sk (K 2) L a)) (its4 0 1 6 0 (K 14)) (ta hs.2) hF
        have r0 : rng ((rgF K L (sk (K 2) L a) (-1)).2.2 0) 4 := by
          rcases rg 0 with e | e
          · exact ⟨0, by decide, e⟩
          · exact rg_in e (by rw [(v3.2 0 (by decide)).1]; decide) (by rw [(v3.2 0 (by decide)).2]; decide) (by decide)
        have r1 : rng ((rgF K L (sk (K 2) L a) (-1)).2.2 1) 4 := by
          rcases rg 1 with e | e
          · exact ⟨1, by decide, e⟩
          · exact rg_in e (by rw [(v3.2 1 (by decide)).1]; decide) (by rw [(v3.2 1 (by decide)).2]; decide) (by decide)
        have r2 : rng ((rgF K L (sk (K 2) L a) (-1)).2.2 2) 30 := by
          rcases rg 2 with e | e
          · exact ⟨6, by decide, e⟩
          · exact rg_in e (by rw [(v3.2 2 (by decide)).1]; decide) (by rw [(v3.2 2 (by decide)).2]; decide) (by decide)
        have r3 : rng ((rgF K L (sk (K 2) L a) (-1)).2.2 3) 2 := by
          rcases rg 3 with e | e
          · exact ⟨0, by decide, e⟩
          · exact rg_in e (by rw [(v3.2 3 (by decide)).1]; decide) (by rw [(v3.2 3 (by decide)).2]; decide) (by decide)
        have eg : (K 4 1).toNatClampNeg = g := by rw [h2, nI_clamp (by omega)]
        rw [eg]
        generalize (rgF K L (sk (K 2) L a) (-1)).2.2 = it at *
        have q8 : ∀ q, rgI K it g 8 q = if q = g then it 0 else K 8 q := fun q => by
          unfold rgI
          rw [up2_ne (by decide), up2_ne (by decide), up2_ne (by decide), up2_ne (by decide), up2_at, rwI_ne (by decide)]
        have q9 : ∀ q, rgI K it g 9 q = if q = g then it 1 else K 9 q := fun q => by
          unfold rgI
          rw [up2_ne (by decide), up2_ne (by decide), up2_ne (by decide), up2_at, up2_ne (by decide), rwI_ne (by decide)]
        have q10 : ∀ q, rgI K it g 10 q = if q = g then it 2 else K 10 q := fun q => by
          unfold rgI
          rw [up2_ne (by decide), up2_ne (by decide), up2_at, up2_ne (by decide), up2_ne (by decide), rwI_ne (by decide)]
        have q11 : ∀ q, rgI K it g 11 q = if q = g then it 3 else K 11 q := fun q => by
          unfold rgI
          rw [up2_ne (by decide), up2_at, up2_ne (by decide), up2_ne (by decide), up2_ne (by decide), rwI_ne (by decide)]
        refine ⟨p, g + 1, ⟨?_, rg_41 K it g, h3, by omega⟩, ?_, fun q hq => ?_, fun q hq => ?_, fun r q hr hg hq => ?_, ?_⟩
        · show rgI K it g 4 0 = _
          rw [rg_40]; exact h1
        · show rng (rgI K it g 4 2) 9
          unfold rgI
          rw [up2_nk (by decide), up2_ne (by decide), up2_ne (by decide), up2_ne (by decide), up2_ne (by decide), rwI_ne (by decide)]
          exact h5
        · show rng (rgI K it g 5 q) 9 ∧ rng (rgI K it g 6 q) 9
          unfold rgI
          rw [up2_ne (by decide), up2_ne (by decide), up2_ne (by decide), up2_ne (by decide), up2_ne (by decide), rwI_ne (by decide), up2_ne (by decide), up2_ne (by decide), up2_ne (by decide), up2_ne (by decide), up2_ne (by decide), rwI_ne (by decide)]
          exact h6 q hq
        · show rng (rgI K it g 8 q) 4 ∧ rng (rgI K it g 9 q) 4 ∧ rng (rgI K it g 10 q) 30 ∧ rng (rgI K it g 11 q) 2
          rw [q8, q9, q10, q11]
          by_cases e : q = g
          · rw [if_pos e, if_pos e, if_pos e, if_pos e]
            exact ⟨r0, r1, r2, r3⟩
          · rw [if_neg e, if_neg e, if_neg e, if_neg e]
            exact h7 q (by omega)
        · show rgI K it g (8 + r) q = 0
          have hq' := h8 r q hr (by omega) hq
          rcases (show r = 0 ∨ r = 1 ∨ r = 2 ∨ r = 3 by omega) with rfl | rfl | rfl | rfl
          · rw [q8, if_neg (by omega)]; exact hq'
          · rw [q9, if_neg (by omega)]; exact hq'
          · rw [q10, if_neg (by omega)]; exact hq'
          · rw [q11, if_neg (by omega)]; exact hq'
        · show rgI K it g 7 6 = 0
          unfold rgI
          rw [up2_ne (by decide), up2_ne (by decide), up2_ne (by decide), up2_ne (by decide), up2_ne (by decide), rwI_ne (by decide)]
          exact h9
      · rw [if_neg c3] at hF
        exfalso
        have hF : nI (sk (K 2) L a) = -1 := hF
        exact nI_m1 (by omega) hF
theorem KI.tl {L : Nat} (hL : L ≤ 240) : ∀ (n : Nat) (K : IM) (a p g : Nat), KI K p g → GVv K → a ≤ L → (tlF L n K a (-1)).2.2 = -1 → ∃ p' g', KI (tlF L n K a (-1)).1 p' g'
  | 0, K, a, p, g, h, _, _, _ => ⟨p, g, h⟩
  | n + 1, K, a, p, g, h, hv, ha, hF => by
    rw [tl_s] at hF ⊢
    by_cases cF : (tcF L K a (-1)).2.2 = -1
    · obtain ⟨p1, g1, h1⟩ := h.tc hL hv ha cF
      rw [cF] at hF ⊢
      have hle := tcF_le K (-1) ha
      by_cases c : nxR (K 2) L (tcF L K a (-1)).2.1 (-1) = 59
      · rw [if_pos c] at hF ⊢
        exact KI.tl hL n _ _ p1 g1 h1 (hv.tc a (-1)) (tkA_le (nxA_le _ _ hle)) hF
      · rw [if_neg c]
        exact ⟨p1, g1, h1⟩
    · exfalso
      rw [(nxF (row := K 2) (L := L) (a := (tcF L K a (-1)).2.1) cF).1, if_neg (by decide)] at hF
      exact cF hF
theorem KI0 (I : IM) (L : Nat) : KI (clD (sgI I 12 L)) 0 0 := by
  have z : ∀ r k, inSt r k → r ≠ 0 ∨ k ≠ 5 → clD (sgI I 12 L) (7 + r) k = 0 := fun r k hk hn => by
    unfold clD
    rw [up2_o (by omega)]
    exact putS_in hk
  refine ⟨⟨by rw [clD_4]; rfl, by rw [clD_4]; rfl, by omega, by omega⟩, ⟨1, by decide, by rw [clD_4]; rfl⟩, fun q hq => by omega, fun q hq => by omega, fun r q hr hg hq => ?_, ?_⟩
  · have := z (r + 1) q (inSt_r (by omega) (by omega) hq) (by omega)
    rw [show 7 + (r + 1) = 8 + r by omega] at this
    exact this
  · exact z 0 6 in06 (by omega)
section
variable {E : EV} {d : Nat} {G : GD} {I : IM}
theorem j_text0 (hX : JX G I) : JRes E d G I mX10_text mX11_text [.int 0] := by
  obtain ⟨hG, hv, ⟨L, hT⟩, ⟨N, css, hL⟩, ⟨P, T, hP, A, ptr, dm, hB⟩, ⟨t, hS⟩, hO⟩ := id hX
  have r1 := m_text0 (E := E) (d := d + 51) hG hv hT.1 hT.2.1
  have hGT := gS_12 hG
  by_cases c : tfF L I = -1
  · rw [if_pos c, if_pos c] at r1
    -- what the reading found
    obtain ⟨hfin, hwh⟩ : (tfS L I).2.2 = -1 ∧ whP (tfS L I).1 := by
      have hle := nxA_le (I 2) (tfS L I).2.2 (tlF_ok L 241 (clD (sgI I 12 L)) 0 (-1) (tr_ok0 I L) (Nat.zero_le _)).2.1
      have hle : nxA (I 2) L (tfS L I).2.1 (tfS L I).2.2 ≤ L := hle
      have cc := c
      unfold tfF at cc
      by_cases z : nxR (I 2) L (tfS L I).2.1 (tfS L I).2.2 = -1 ∧ whP (tfS L I).1
      · rw [if_pos z] at cc
        exact ⟨cc, z.2⟩
      · exfalso
        rw [if_neg z] at cc
        unfold wrF at cc
        by_cases y : (tfS L I).2.2 = -1
        · rw [if_pos y] at cc
          have := hT.1
          exact nI_m1 (by omega) cc
        · rw [if_neg y] at cc
          exact y cc
    have hgv : GVv (clD (sgI I 12 L)) := hO.2.2.2.1.fr (fun b hb => by
      rw [clD_ne _ (by omega) (by omega) (by omega)]
      exact up2_ne (by omega))
    obtain ⟨p, g, hK⟩ := KI.tl hT.1 241 (clD (sgI I 12 L)) 0 0 0 (KI0 I L) hgv (Nat.zero_le _) hfin
    have hK : KI (tfS L I).1 p g := hK
    have f1 : ∀ x, x ≠ 7 → x ≠ 12 → tfI L I x = (tfS L I).1 x := fun x h1 h2 => by
      unfold tfI
      rw [pI_ne h2, up2_ne h1]
    have f7 : ∀ k, tfI L I 7 k = if k = 4 then bitI ((tfS L I).1 4 0) - 1 else (tfS L I).1 7 k := fun k => by
      unfold tfI
      rw [pI_ne (by decide), up2_at]
    -- the class's cells
    have tc : ∀ x, x < 15 ∨ 22 < x → tcI (tfI L I) x = tfI L I x := fun x hx => by
      unfold tcI
      rw [putS_far (by omega), upr_ne (by omega), upr_ne (by omega), up2_ne (by omega), up2_ne (by omega), up2_ne (by omega)]
    have ti : ∀ b k, ¬ (b = 1 ∧ k = 1 ∨ b = 0 ∧ k = 15 ∨ b = 256 ∧ k = 5 ∨ b = 45 ∧ k = 2 ∨ 36 ≤ b ∧ b ≤ 40) → ttI (tfI L I) b k = tcI (tfI L I) b k := fun b k q => by
      unfold ttI
      rw [up2_o (by omega), up2_o (by omega), up2_o (by omega), up2_o (by omega), putS_far (by omega)]
    have hi : ∀ b, 311 ≤ b → ttI (tfI L I) b = I b := fun b hb => funext fun k => by
      rw [ti b k (by omega), tc b (by omega), tfI_o I L (by omega)]
    obtain ⟨J, p', g', j1, j2, j3⟩ := r_text0 (E := E) (d := d + 54) hGT hT.1 (I := ttI (tfI L I)) (C := I) hO.2.2.2.1 hT.2.2.2.2 (by rw [hi 311 (by decide)]; exact hT.2.2.1) (by rw [hi 312 (by decide)]; exact hT.2.2.2.1)
    rw [if_pos c, if_pos c] at j3
    obtain ⟨t1, t2, t3, t4, t5, t6, t7, t8, t9, t10, t11, t12⟩ := j2 c
    obtain ⟨⟨k1, k2, k3, k4⟩, k5, k6, k7, k8, k9⟩ := hK
    obtain rfl : p' = p := (nI_eq (by omega) (by omega)).mp (t5.symm.trans k1)
    obtain rfl : g' = g := (nI_eq (by omega) (by omega)).mp (t7.symm.trans k2)
    rw [show tfI L I 4 0 = nI p' by rw [f1 4 (by decide) (by decide)]; exact k1] at r1
    have hp2 : 2 ≤ p' := by
      by_cases z : 2 ≤ p'
      · exact z
      · exact absurd (by rw [k1]; exact nI_lt (b := 2) (by omega) (by decide)) hwh.2
    -- the reference's cells
    generalize hX2 : up2 J 311 2 0 = X at j3
    have x20 : X 311 20 = nI p' := by rw [← hX2, up2_nk (by decide)]; exact t6
    have x21 : X 311 21 = nI g' := by rw [← hX2, up2_nk (by decide)]; exact t8
    have xo : ∀ b, b ≠ 311 → X b = J b := fun b hb => by rw [← hX2]; exact up2_ne hb
    have z0 : ∀ b, b ≠ 325 → b ≠ 326 → b ≠ 327 → b ≠ 328 → b ≠ 311 → tk0 X b = X b := fun b h1 h2 h3 h4 h5 => by
      unfold tk0
      rw [zrI_ne h4, bkI_ne h3, bkI_ne h2, bkI_ne h1, up2_ne h5, up2_ne h5]
    have z311 : ∀ k, k ≠ 25 → k ≠ 26 → tk0 X 311 k = X 311 k := fun k h1 h2 => by
      unfold tk0
      rw [zrI_ne (by decide), bkI_ne (by decide), bkI_ne (by decide), bkI_ne (by decide), up2_nk h2, up2_nk h1]
    have z325 : ∀ k, k < 2 → tk0 X 325 k = J 322 k := fun k hk => by
      unfold tk0
      rw [zrI_ne (by decide), bkI_ne (by decide), bkI_ne (by decide)]
      unfold bkI
      rw [if_pos ⟨rfl, hk⟩, up2_ne (by decide), up2_ne (by decide), xo 322 (by decide)]
    have z326 : ∀ k, k < 10 → tk0 X 326 k = J 323 k := fun k hk => by
      unfold tk0
      rw [zrI_ne (by decide), bkI_ne (by decide)]
      show bkI _ 326 323 10 326 k = _
      unfold bkI
      rw [if_pos ⟨rfl, hk⟩]
      show bkI _ 325 322 2 323 k = _
      rw [bkI_ne (by decide), up2_ne (by decide), up2_ne (by decide), xo 323 (by decide)]
    have z327 : ∀ k, k < 40 → tk0 X 327 k = J 324 k := fun k hk => by
      unfold tk0
      rw [zrI_ne (by decide)]
      show bkI _ 327 324 40 327 k = _
      unfold bkI
      rw [if_pos ⟨rfl, hk⟩]
      show bkI (bkI _ 325 322 2) 326 323 10 324 k = _
      rw [bkI_ne (by decide), bkI_ne (by decide), up2_ne (by decide), up2_ne (by decide), xo 324 (by decide)]
    have z25 : tk0 X 311 25 = nI p' := by
      unfold tk0
      rw [zrI_ne (by decide), bkI_ne (by decide), bkI_ne (by decide), bkI_ne (by decide), up2_nk (by decide), up2_sa]
      exact x20
    have z26 : tk0 X 311 26 = nI g' := by
      unfold tk0
      rw [zrI_ne (by decide), bkI_ne (by decide), bkI_ne (by decide), bkI_ne (by decide), up2_sa]
      exact x21
    have z328 : ∀ k, k < 232 → tk0 X 328 k = 0 := fun k hk => if_pos ⟨rfl, hk⟩
    generalize hY : tk0 X = Y at *
    have rk : ∀ b, b ≠ 311 → b ≠ 328 → tkR X p' g' b = Y b := fun b h1 h2 => by
      unfold tkR
      rw [hY, up2_ne h1, up2_ne h1, up2_ne h1, rp_ne h2]
    have rk311 : ∀ k, k ≠ 40 → k ≠ 32 → k ≠ 44 → tkR X p' g' 311 k = Y 311 k := fun k h1 h2 h3 => by
      unfold tkR
      rw [hY, up2_nk h3, up2_nk h2, up2_nk h1, rp_ne (by decide)]
    have rk328 : tkR X p' g' 328 = rp Y (tdV Y p' g') 328 := by
      unfold tkR
      rw [hY, up2_ne (by decide), up2_ne (by decide), up2_ne (by decide)]
    have td : tdV (tkR X p' g') p' g' = tdV Y p' g' := tdV_fr (fun b k q => by
      unfold rdP at q
      by_cases e : b = 311
      · subst e
        exact rk311 k (by omega) (by omega) (by omega)
      · rw [rk b e (by omega)]) p' g'
    have lo : ∀ b k, b < 311 → tkR X p' g' b k = ttI (tfI L I) b k := fun b k hb => by
      rw [rk b (by omega) (by omega), z0 b (by omega) (by omega) (by omega) (by omega) (by omega), xo b (by omega), j1 b k (by omega)]
    -- the told town
    have gs18 : eqS (getS (tkR X p' g') 18) (getS (tfI L I) 7) := fun r k hk => by
      have hr : r ≤ 4 := by unfold inSt at hk; omega
      show tkR X p' g' (18 + r) k = _
      rw [lo _ k (by omega), ti _ k (by omega)]
      unfold tcI
      rw [putS_in hk]
    have g7 : eqS (getS (tfI L I) 7) (tdV Y p' g') := fun r k hk => by
      show tfI L I (7 + r) k = _
      rcases hk with ⟨rfl, hk⟩ | ⟨h1, h4, hk⟩
      · show tfI L I 7 k = if k = 4 then evb p' else if k = 5 then Y 325 1 else 0
        rw [f7]
        rcases hk with rfl | rfl | rfl
        · rw [if_pos rfl, if_pos rfl, k1]
          rfl
        · rw [if_neg (by decide), if_neg (by decide), if_pos rfl, z325 1 (by decide)]
          exact t10.symm
        · rw [if_neg (by decide), if_neg (by decide), if_neg (by decide)]
          exact k9
      · obtain ⟨q, rfl⟩ : ∃ q, r = q + 1 := ⟨r - 1, by omega⟩
        show tfI L I (7 + (q + 1)) k = if k < g' then Y 327 (4 * k + q) else 0
        rw [f1 _ (by omega) (by omega), show 7 + (q + 1) = 8 + q by omega]
        by_cases e : k < g'
        · rw [if_pos e, z327 _ (by omega)]
          exact (t12 k e q (by omega)).symm
        · rw [if_neg e]
          exact k8 q k (by omega) (by omega) hk
    have e18 : eqS (getS (tkR X p' g') 18) (tdV (tkR X p' g') p' g') := by rw [td]; exact gs18.trans g7
    have okT' : SVok p' (tdV Y p' g') := by
      refine ⟨fun k hk => ?_, ?_⟩
      · show rng (if k < g' then Y 327 (4 * k + 0) else 0) 4 ∧ rng (if k < g' then Y 327 (4 * k + 1) else 0) 4 ∧ rng (if k < g' then Y 327 (4 * k + 2) else 0) 30 ∧ rng (if k < g' then Y 327 (4 * k + 3) else 0) 2
        by_cases e : k < g'
        · rw [if_pos e, if_pos e, if_pos e, if_pos e, z327 _ (by omega), z327 _ (by omega), z327 _ (by omega), z327 _ (by omega), t12 k e 0 (by decide), t12 k e 1 (by decide), t12 k e 2 (by decide), t12 k e 3 (by decide)]
          exact k7 k e
        · rw [if_neg e, if_neg e, if_neg e, if_neg e]
          exact ⟨⟨0, by decide, rfl⟩, ⟨0, by decide, rfl⟩, ⟨0, by decide, rfl⟩, ⟨0, by decide, rfl⟩⟩
      · have : ∀ P, P ≤ 5 → evb P = nI (2 ^ P - 1) := by decide
        exact ⟨2 ^ p' - 1, by have : 0 < 2 ^ p' := Nat.pow_pos (by decide); omega, this p' k3⟩
    refine ⟨_, _, _, _, _, r1, hGT, j3, rfl, hGT, hv, ?_⟩
    have okI : ∀ b k, ¬ (b = 1 ∧ k = 1 ∨ b = 0 ∧ k = 15 ∨ b = 256 ∧ k = 5 ∨ b = 45 ∧ k = 2 ∨ 36 ≤ b ∧ b ≤ 40 ∨ 3 ≤ b ∧ b ≤ 22) → b < 311 → tkR X p' g' b k = I b k := fun b k q hb => by
      rw [lo b k hb, ti b k (by omega), tc b (by omega), tfI_o I L (by omega)]
    have okH : ∀ b k, 311 ≤ b → ¬ (322 ≤ b ∧ b ≤ 328) → ¬ (b = 311 ∧ (k = 2 ∨ k = 3 ∨ k = 4 ∨ k = 20 ∨ k = 21 ∨ k = 25 ∨ k = 26 ∨ k = 40 ∨ k = 32 ∨ k = 44)) → tkR X p' g' b k = I b k := fun b k hb q1 q2 => by
      by_cases e : b = 311
      · subst e
        rw [rk311 k (by omega) (by omega) (by omega), z311 k (by omega) (by omega), ← hX2, up2_nk (by omega), j1 311 k (by omega), hi 311 (by decide)]
      · rw [rk b e (by omega), z0 b (by omega) (by omega) (by omega) (by omega) e, xo b e, j1 b k (by omega), hi b hb]
    have i15 : ∀ k, k < 3 → tkR X p' g' 15 k = tfI L I 4 k := fun k hk => by
      rw [lo 15 k (by decide), ti 15 k (by omega)]
      unfold tcI
      rw [putS_far (by decide), upr_ne (by decide), upr_ne (by decide)]
      rcases (show k = 0 ∨ k = 1 ∨ k = 2 by omega) with rfl | rfl | rfl
      · rw [up2_nk (by decide), up2_nk (by decide), up2_sa]
      · rw [up2_nk (by decide), up2_sa]
      · rw [up2_sa]
    have i16 : ∀ k, k < 5 → tkR X p' g' 16 k = (tfS L I).1 5 k ∧ tkR X p' g' 17 k = (tfS L I).1 6 k := fun k hk => by
      rw [lo 16 k (by decide), ti 16 k (by omega), lo 17 k (by decide), ti 17 k (by omega)]
      unfold tcI
      rw [putS_far (by decide), putS_far (by decide), upr_ne (show (16 : Nat) ≠ 17 by decide)]
      unfold upr
      rw [if_pos rfl, if_pos rfl]
      unfold cp5
      rw [if_pos hk, if_pos hk, f1 5 (by decide) (by decide), f1 6 (by decide) (by decide)]
      exact ⟨rfl, rfl⟩
    refine ⟨⟨0, by omega, ?_, ?_, ?_, fun k hk => by omega⟩, ⟨N, css, hL.fr (fun b k q => ?_)⟩, ⟨p', g', ⟨⟨k3, k4, fun z => by omega⟩, ⟨?_, ?_, ?_, ?_⟩, ⟨?_, ?_⟩, fun q hq => ?_, e18, by rw [td]; exact okT'⟩, 0, ptr, fun _ => 0, ⟨by omega, hB.1.2.1, ?_, ?_, ?_⟩, ?_, fun m hm => absurd hm (by omega), fun m hm => absurd hm (by omega), Or.inl ?_, ?_, fun z => ?_⟩, ⟨0, by omega, ?_, ?_, fun k hk => by omega⟩, hO.fr (fun b k q => ?_)⟩
    · rw [lo 1 1 (by decide)]
      exact up2_sa _ _ _ _
    · rw [rk311 2 (by decide) (by decide) (by decide), z311 2 (by decide) (by decide), ← hX2, up2_sa]
      rfl
    · funext k
      rw [okH 312 k (by decide) (by omega) (by omega), okI 2 k (by omega) (by decide), hT.2.2.2.1]
    · unfold rdL at q
      by_cases z : b < 311
      · exact okI b k (by omega) z
      · exact okH b k (by omega) (by omega) (by omega)
    · rw [i15 0 (by decide), f1 4 (by decide) (by decide)]; exact k1
    · rw [rk311 25 (by decide) (by decide) (by decide)]; exact z25
    · rw [i15 1 (by decide), f1 4 (by decide) (by decide)]; exact k2
    · rw [rk311 26 (by decide) (by decide) (by decide)]; exact z26
    · rw [rk 325 (by decide) (by decide), z325 0 (by decide), i15 2 (by decide), f1 4 (by decide) (by decide)]
      exact t9
    · rw [i15 2 (by decide), f1 4 (by decide) (by decide)]; exact k5
    · rw [rk 326 (by decide) (by decide), z326 _ (by omega), z326 _ (by omega), (i16 q (by omega)).1, (i16 q (by omega)).2, (t11 q hq).1, (t11 q hq).2]
      exact ⟨rfl, rfl, k6 q hq⟩
    · rw [okI 45 1 (by omega) (by decide)]; exact hB.1.2.2.1
    · rw [lo 45 2 (by decide)]
      unfold ttI
      rw [up2_ne (by decide), up2_ne (by decide), up2_ne (by decide), up2_sa]
      rfl
    · unfold tkR
      rw [up2_nk (by decide), up2_sa]
      rfl
    · have s36 : eqS (getS (tkR X p' g') 36) (tdV Y p' g') := fun r k hk => by
        have hr : r ≤ 4 := by unfold inSt at hk; omega
        show tkR X p' g' (36 + r) k = _
        rw [lo _ k (by omega)]
        unfold ttI
        rw [up2_ne (by omega), up2_ne (by omega), up2_ne (by omega), up2_ne (by omega), putS_in hk]
        show tcI (tfI L I) (18 + r) k = _
        unfold tcI
        rw [putS_in hk]
        exact g7 r k hk
      refine ⟨?_, (okT'.congr s36.symm).z (by omega), ?_, by decide, ?_, fun j w hj hw => ?_⟩
      · rw [← rv_bv]
        refine eqS.trans ?_ s36.symm
        rw [rv_congr (I := rp Y (tdV Y p' g')) (J := tkR X p' g') rk328]
        exact rv_rp
      · rw [s36 0 6 in06]
        rfl
      · rw [rk328, rp_hi (by decide), z328 51 (by decide)]
        rfl
      · exact absurd hj (by show ¬ j < min 60 0; omega)
    · rw [lo 0 15 (by decide)]
      unfold ttI
      rw [up2_ne (by decide), up2_sa]
    · unfold tkR
      rw [up2_sa]
      have : up2 (up2 (up2 (rp (tk0 X) (tdV (tk0 X) p' g')) 311 40 0) 311 32 0) 311 44 0 0 15 = ttI (tfI L I) 0 15 := lo 0 15 (by decide)
      rw [this]
      unfold ttI
      rw [up2_ne (by decide), up2_sa]
    · exfalso
      have e0 : tkR X p' g' 0 15 = 0 := by
        rw [lo 0 15 (by decide)]
        unfold ttI
        rw [up2_ne (by decide), up2_sa]
      rw [e0] at z
      exact absurd z (by decide)
    · rw [lo 256 5 (by decide)]
      unfold ttI
      rw [up2_ne (by decide), up2_ne (by decide), up2_sa]
      rfl
    · unfold tkR
      rw [up2_nk (by decide), up2_nk (by decide), up2_sa]
      rfl
    · unfold rdO at q
      by_cases z : b < 311
      · exact okI b k (by omega) z
      · exact okH b k (by omega) (by omega) (by omega)
  · rw [if_neg c, if_neg c] at r1
    have z := tfI_Z I L
    have hi := Z311 z
    obtain ⟨J, p', g', j1, -, j3⟩ := r_text0 (E := E) (d := d + 54) hGT hT.1 (I := tfI L I) (C := I) hO.2.2.2.1 hT.2.2.2.2 (by rw [hi 311 (by decide)]; exact hT.2.2.1) (by rw [hi 312 (by decide)]; exact hT.2.2.2.1)
    rw [if_neg c, if_neg c] at j3
    exact ⟨_, _, _, _, _, r1, hGT, j3, rfl, hGT, hv, (hX.2.2.Z z).W j1.W2⟩
theorem j_text (hX : JX G I) (s : Int32) : JRes E d G I mX10_text mX11_text [.int s] := by
  by_cases c0 : s = 0
  · subst c0
    exact j_text0 hX
  · by_cases c1 : s = 1
    · subst c1
      exact j_text1 hX
    · exact JRes.q0 hX (m_text2 s c0 c1) (r_text2 s c0 c1) rfl
end
