/-! ===== class and reference: what changes, changes alike ===== -/
def rdN (b k : Nat) : Prop := rdTp b k ∨ rdL b k ∨ rdP b k ∨ rdS b k ∨ rdO b k
theorem JI.setT {I J : IM} {L : Nat} (h : JI I) (e : ∀ b k, ¬ rdTp b k → J b k = I b k) (hT : JT J L) : JI J := by
  obtain ⟨-, ⟨N, css, h2⟩, ⟨P, T, h3, A, ptr, dm, h4⟩, ⟨t, h5⟩, h6⟩ := h
  refine ⟨⟨L, hT⟩, ⟨N, css, h2.fr (fun b k q => e b k ?_)⟩, ⟨P, T, h3.fr (fun b k q => e b k ?_), A, ptr, dm, h4.fr (fun b k q => e b k ?_) (fun b k q => e b k ?_)⟩, ⟨t, h5.fr (fun b k q => e b k ?_)⟩, h6.fr (fun b k q => e b k ?_)⟩ <;> (unfold rdTp; first | (unfold rdL at q; omega) | (unfold rdP at q; omega) | (unfold rdB at q; omega) | (unfold rdBr at q; omega) | (unfold rdS at q; omega) | (unfold rdO at q; omega))
theorem JI.setL {I J : IM} {N : Nat} {css : Nat → CLs} (h : JI I) (e : ∀ b k, ¬ rdL b k → J b k = I b k) (hL : JL J N css) : JI J := by
  obtain ⟨⟨L, h1⟩, -, ⟨P, T, h3, A, ptr, dm, h4⟩, ⟨t, h5⟩, h6⟩ := h
  refine ⟨⟨L, h1.fr (fun b k q => e b k ?_)⟩, ⟨N, css, hL⟩, ⟨P, T, h3.fr (fun b k q => e b k ?_), A, ptr, dm, h4.fr (fun b k q => e b k ?_) (fun b k q => e b k ?_)⟩, ⟨t, h5.fr (fun b k q => e b k ?_)⟩, h6.fr (fun b k q => e b k ?_)⟩ <;> (unfold rdL; first | (unfold rdTp at q; omega) | (unfold rdP at q; omega) | (unfold rdB at q; omega) | (unfold rdBr at q; omega) | (unfold rdS at q; omega) | (unfold rdO at q; omega))
theorem JI.setS {I J : IM} {t : Nat} (h : JI I) (e : ∀ b k, ¬ rdS b k → J b k = I b k) (hS : JS J t) : JI J := by
  obtain ⟨⟨L, h1⟩, ⟨N, css, h2⟩, ⟨P, T, h3, A, ptr, dm, h4⟩, -, h6⟩ := h
  refine ⟨⟨L, h1.fr (fun b k q => e b k ?_)⟩, ⟨N, css, h2.fr (fun b k q => e b k ?_)⟩, ⟨P, T, h3.fr (fun b k q => e b k ?_), A, ptr, dm, h4.fr (fun b k q => e b k ?_) (fun b k q => e b k ?_)⟩, ⟨t, hS⟩, h6.fr (fun b k q => e b k ?_)⟩ <;> (unfold rdS; first | (unfold rdTp at q; omega) | (unfold rdL at q; omega) | (unfold rdP at q; omega) | (unfold rdB at q; omega) | (unfold rdBr at q; omega) | (unfold rdO at q; omega))
theorem JI.setO {I J : IM} (h : JI I) (e : ∀ b k, ¬ rdO b k → J b k = I b k) (hO : JO J) : JI J := by
  obtain ⟨⟨L, h1⟩, ⟨N, css, h2⟩, ⟨P, T, h3, A, ptr, dm, h4⟩, ⟨t, h5⟩, -⟩ := h
  refine ⟨⟨L, h1.fr (fun b k q => e b k ?_)⟩, ⟨N, css, h2.fr (fun b k q => e b k ?_)⟩, ⟨P, T, h3.fr (fun b k q => e b k ?_), A, ptr, dm, h4.fr (fun b k q => e b k ?_) (fun b k q => e b k ?_)⟩, ⟨t, h5.fr (fun b k q => e b k ?_)⟩, hO⟩ <;> (unfold rdO; first | (unfold rdTp at q; omega) | (unfold rdL at q; omega) | (unfold rdP at q; omega) | (unfold rdB at q; omega) | (unfold rdBr at q; omega) | (unfold rdS at q; omega))
theorem JI.setB {I J : IM} {P T A ptr : Nat} {dm : Nat → Nat} (h : JI I) (hP : JP I P T) (e : ∀ b k, rdN b k → J b k = I b k) (hB : JB J J P A ptr dm) : JI J := by
  obtain ⟨⟨L, h1⟩, ⟨N, css, h2⟩, -, ⟨t, h5⟩, h6⟩ := h
  exact ⟨⟨L, h1.fr (fun b k q => e b k (Or.inl q))⟩, ⟨N, css, h2.fr (fun b k q => e b k (Or.inr (Or.inl q)))⟩, ⟨P, T, hP.fr (fun b k q => e b k (Or.inr (Or.inr (Or.inl q)))), A, ptr, dm, hB⟩, ⟨t, h5.fr (fun b k q => e b k (Or.inr (Or.inr (Or.inr (Or.inl q)))))⟩, h6.fr (fun b k q => e b k (Or.inr (Or.inr (Or.inr (Or.inr q)))))⟩
theorem JB.join {C R I2 : IM} {P A ptr : Nat} {dm : Nat → Nat} (h : JB C R P A ptr dm) (hC : ∀ b, b < 311 → I2 b = C b) (hR : ∀ b, 311 ≤ b → I2 b = R b) : JB I2 I2 P A ptr dm := h.fr (fun b k q => by rw [hC b (by unfold rdB at q; omega)]) (fun b k q => by rw [hR b (by unfold rdBr at q; omega)])
/-- the reference's cells are the same -/
def e311 (I J : IM) : Prop := ∀ b, 311 ≤ b → J b = I b
theorem e311.rf {I : IM} : e311 I I := fun _ _ => rfl
theorem e311.trans {I J K : IM} (h : e311 I J) (h2 : e311 J K) : e311 I K := fun b q => (h2 b q).trans (h b q)
theorem e311.rv {I J : IM} (h : e311 I J) : rv J = rv I := rv_congr (h 328 (by decide))
theorem e311.ls {I J : IM} (h : e311 I J) : lsE I J := ⟨fun b h1 h2 => h b (by omega), h 326 (by decide), by rw [h 311 (by decide)], by rw [h 311 (by decide)], by rw [h 311 (by decide)]⟩
theorem e311_rp {I J : IM} (h : e311 I J) (V : SV) : e311 (rp I V) (rp J V) := fun b hb => by
  funext k
  unfold rp
  rw [h b hb]
theorem e311_kR {I J : IM} (h : e311 I J) : e311 (kR I) (kR J) := fun b hb => by
  unfold kR
  rw [h 311 (by decide)]
  by_cases e : b = 330
  · subst e
    exact kpR_row (h 330 (by decide)) (h 328 (by decide))
  · by_cases e2 : b = 311
    · subst e2
      funext k
      by_cases e3 : k = 32
      · subst e3
        rw [kpR_32, kpR_32]
      · rw [kpR_311 e3, kpR_311 e3, h 311 (by decide)]
    · rw [kpR_ne e e2, kpR_ne e e2, h b hb]
theorem e311_pR {I J : IM} (h : e311 I J) : e311 (pR I) (pR J) := fun b hb => by
  by_cases e : b = 328
  · subst e
    unfold pR
    rw [h 325 (by decide), h.rv, h 328 (by decide)]
    funext k
    unfold rp
    rw [pdR_row (h 328 (by decide))]
  · rw [pR_ne e, pR_ne e, h b hb]
theorem e311_ROK {P : Nat} {I J : IM} (h : e311 I J) (hR : ROK P I) : ROK P J := by
  obtain ⟨h1, h2, h3, h4, h5, h6⟩ := hR
  exact ⟨h1, by rw [h 311 (by decide)]; exact h2, by rw [h 325 (by decide)]; exact h3, by rw [h 311 (by decide)]; exact h4, by rw [h 328 (by decide)]; exact h5, by rw [h.rv]; exact h6⟩
theorem kR_lo {I : IM} {b : Nat} (h : b < 311) : kR I b = I b := kR_ne (by omega) (by omega)
theorem pR_lo {I : IM} {b : Nat} (h : b < 311) : pR I b = I b := pR_ne (by omega)
theorem rp_lo {I : IM} {V : SV} {b : Nat} (h : b < 311) : rp I V b = I b := rp_ne (by omega)
section
variable {E : EV} {d : Nat} {G : GD} {I : IM}
theorem j_end (hX : JX G I) (n : Int32) : JRes E d G I mX10_end mX11_end [.int n] := by
  obtain ⟨hG, hv, ⟨L, hT⟩, -, -, -, -⟩ := id hX
  have r1 := m_end (E := E) (d := d + 60) hG (I := I) n
  by_cases c : oEnd I n
  · rw [if_pos c] at r1
    have r2 := r_end (E := E) (d := d + 60) hG (I := up2 I 1 1 n) n
    have e2 : up2 I 1 1 n 311 2 = I 1 1 := by rw [up2_ne (by decide), hT.2.1]; exact hT.2.2.1
    rw [e2, if_pos c] at r2
    refine ⟨_, _, _, _, _, r1, hG, r2, rfl, hG, hv, ?_⟩
    obtain ⟨k, -, hk, e⟩ := in_i (x := n) (a := 0) (b := L) (by have := hT.1; omega) ⟨c.1, by rw [← hT.2.1]; exact Int32.not_lt.mpr c.2⟩ (by decide)
    subst e
    refine hX.2.2.setT (L := k) (fun b j q => by rw [up2_o (by unfold rdTp at q; omega), up2_o (by unfold rdTp at q; omega)]) ⟨by have := hT.1; omega, by rw [up2_ne (by decide), up2_sa], up2_sa _ _ _ _, ?_, fun j hj => ?_⟩
    · rw [up2_ne (by decide), up2_ne (by decide), up2_ne (by decide), up2_ne (by decide)]
      exact hT.2.2.2.1
    · rw [up2_ne (by decide), up2_ne (by decide)]
      exact hT.2.2.2.2 j (by omega)
  · rw [if_neg c] at r1
    have r2 := r_end (E := E) (d := d + 60) hG (I := I) n
    have e2 : I 311 2 = I 1 1 := by rw [hT.2.1]; exact hT.2.2.1
    rw [e2, if_neg c] at r2
    exact ⟨_, _, _, _, _, r1, hG, r2, rfl, hX⟩
theorem j_law (hX : JX G I) (n : Int32) : JRes E d G I mX10_law mX11_law [.int n] := by
  obtain ⟨hG, hv, -, ⟨N, css, hL⟩, -, -, -⟩ := id hX
  have r1 := m_law (E := E) (d := d + 60) hG (I := I) n
  have iff : oLaw I n ↔ ¬ n < -1 ∧ ¬ nI N ≤ n := by
    unfold oLaw
    rw [hL.2.1, Int32.not_le]
  by_cases c : oLaw I n
  · rw [if_pos c, bInt_t c] at r1
    have r2 := r_law (E := E) (d := d + 59) hG (I := up2 I 27 6 n) hL.1 (by rw [up2_ne (by decide)]; exact hL.2.2.1) n
    rw [if_pos (iff.mp c), bInt_t (iff.mp c)] at r2
    refine ⟨_, _, _, _, _, r1, hG, r2, rfl, hG, hv, ?_⟩
    obtain ⟨h1, h2, h3, h4, h5, h6⟩ := hL
    refine hX.2.2.setL (N := N) (css := css) (fun b j q => by rw [up2_o (by unfold rdL at q; omega), up2_o (by unfold rdL at q; omega)]) ⟨h1, by rw [up2_ne (by decide), up2_nk (by decide)]; exact h2, by rw [up2_nk (by decide), up2_ne (by decide)]; exact h3, by rw [up2_sa, up2_ne (by decide), up2_sa], ?_, fun h hh => ?_⟩
    · rw [up2_ne (by decide), up2_sa]
      by_cases z : n < 0
      · left
        apply toI_inj
        have q1 := Int32.lt_iff_toInt_lt.mp z
        have q2 : ¬ n.toInt < -1 := fun q => c.1 (Int32.lt_iff_toInt_lt.mpr q)
        have q3 : (0 : Int32).toInt = 0 := by decide
        have q4 : (-1 : Int32).toInt = -1 := by decide
        omega
      · right
        exact pn_lt ⟨z, (iff.mp c).2⟩
    · obtain ⟨k1, k2, k3, k4⟩ := h6 h hh
      exact ⟨k1.row (fun b h1 h2 => by rw [up2_ne (by omega), up2_ne (by omega)]), by rw [up2_ne (by decide), up2_ne (by decide)]; exact k2, k3, fun i hi => by rw [up2_ne (by omega), up2_ne (by omega)]; exact k4 i hi⟩
  · rw [if_neg c, bInt_f c] at r1
    have r2 := r_law (E := E) (d := d + 59) hG (I := I) hL.1 hL.2.2.1 n
    rw [if_neg (fun z => c (iff.mpr z)), bInt_f (fun z => c (iff.mpr z))] at r2
    exact ⟨_, _, _, _, _, r1, hG, r2, rfl, hX⟩
theorem j_mercy (hX : JX G I) (v : Int32) : JRes E d G I mX10_mercy mX11_mercy [.int v] := by
  obtain ⟨hG, hv, -, -, -, -, hO⟩ := id hX
  have r1 := m_mercy (E := E) (d := d + 60) hG (I := I) v
  have iff : oMercy I v ↔ (¬ v < 0 ∧ ¬ 9 < v) ∧ ¬ v = I 311 30 := by
    unfold oMercy
    rw [hO.2.1, and_assoc]
  by_cases c : oMercy I v
  · rw [if_pos c, bInt_t c] at r1
    have r2 := r_mercy (E := E) (d := d + 59) hG (I := up2 I 0 16 v) v
    rw [up2_ne (show (311 : Nat) ≠ 0 by decide), if_pos (iff.mp c), bInt_t (iff.mp c)] at r2
    refine ⟨_, _, _, _, _, r1, hG, r2, rfl, hG, hv, ?_⟩
    obtain ⟨h1, h2, h3, h4, h5⟩ := hO
    refine hX.2.2.setO (fun b j q => by rw [up2_o (by unfold rdO at q; omega), up2_o (by unfold rdO at q; omega)]) ⟨fun w hw => by rw [up2_ne (by decide), up2_ne (by decide), up2_ne (by decide), up2_ne (by decide)]; exact h1 w hw, by rw [up2_sa, up2_ne (by decide), up2_sa], by rw [up2_ne (by decide), up2_ne (by decide)]; exact h3, h4.fr (fun b hb => by rw [up2_ne (by omega), up2_ne (by omega)]), by rw [up2_ne (by decide), up2_ne (by decide)]; exact h5⟩
  · rw [if_neg c, bInt_f c] at r1
    have r2 := r_mercy (E := E) (d := d + 59) hG (I := I) v
    rw [if_neg (fun z => c (iff.mpr z)), bInt_f (fun z => c (iff.mpr z))] at r2
    exact ⟨_, _, _, _, _, r1, hG, r2, rfl, hX⟩
theorem j_seen (hX : JX G I) (p n : Int32) {b : Int32} (hb : b = 0 ∨ b = 1) : JRes E d G I mX10_seen mX11_seen [.int p, .int n, .int b] := by
  obtain ⟨hG, hv, -, -, ⟨P, T, hP, -⟩, ⟨t, hS⟩, -⟩ := id hX
  have r1 := m_seen (E := E) (d := d + 59) hG ⟨t, hS.1, hS.2.1⟩ p n b
  have ct : (I 256 5).toNatClampNeg = t := by rw [hS.2.1, nI_clamp (by have := hS.1; omega)]
  have iff : oSeen I p n ↔ (¬ p < 0 ∧ ¬ nI P ≤ p) ∧ (¬ n < 1 ∧ ¬ 30 < n) ∧ ¬ t = 10 := by
    unfold oSeen isP
    rw [hP.2.1.1, hS.2.1]
    have : nI t < 10 ↔ ¬ t = 10 := by
      have : ∀ t, t ≤ 10 → (nI t < 10 ↔ ¬ t = 10) := by decide
      exact this t hS.1
    rw [this]
    exact ⟨fun ⟨a, b, c, e⟩ => ⟨a, ⟨b, c⟩, e⟩, fun ⟨a, ⟨b, c⟩, e⟩ => ⟨a, b, c, e⟩⟩
  rw [ct] at r1
  by_cases c : oSeen I p n
  · rw [if_pos c, if_pos c] at r1
    have c' := iff.mp c
    have htl : t < 10 := by have := hS.1; omega
    unfold nSeen at r1
    rw [ct] at r1
    have e311' : ∀ b, 311 ≤ b → snI I t p n b = snI I t p n b := fun _ _ => rfl
    have lo : ∀ (x : Nat), 311 ≤ x → snI I t p n b x = I x := fun x hx => by
      unfold snI
      rw [up2_ne (by omega), up2_ne (by omega), up2_ne (by omega), up2_ne (by omega)]
    have r2 := r_seen (E := E) (d := d + 58) hG (I := snI I t p n b) hP.1.1 (by rw [lo 311 (by decide)]; exact hP.2.1.2.1) hS.1 (by rw [lo 311 (by decide)]; exact hS.2.2.1) p n hb
    rw [if_pos c', if_pos c'] at r2
    refine ⟨_, _, _, _, _, r1, hG, r2, rfl, hG, hv, ?_⟩
    have eb : (if b = 0 then 0 else 1 : Int32) = b := by rcases hb with rfl | rfl <;> rfl
    obtain ⟨h1, h2, h3, h4⟩ := hS
    refine hX.2.2.setS (t := t + 1) (fun x j q => ?_) ⟨by omega, ?_, up2_sa _ _ _ _, fun k hk => ?_⟩
    · rw [up2_o (by unfold rdS at q; omega), up2_o (by unfold rdS at q; omega), up2_o (by unfold rdS at q; omega), up2_o (by unfold rdS at q; omega)]
      unfold snI
      rw [up2_o (by unfold rdS at q; omega), up2_o (by unfold rdS at q; omega), up2_o (by unfold rdS at q; omega), up2_o (by unfold rdS at q; omega)]
    · rw [up2_ne (by decide), up2_ne (by decide), up2_ne (by decide), up2_ne (by decide)]
      exact up2_sa _ _ _ _
    · have s7 : ∀ k, up2 (up2 (up2 (up2 (snI I t p n b) 332 t p) 333 t n) 334 t b) 311 40 (nI (t + 1)) 257 k = if k = t then p else I 257 k := fun k => by
        rw [up2_ne (by decide), up2_ne (by decide), up2_ne (by decide), up2_ne (by decide)]
        unfold snI
        rw [up2_ne (by decide), up2_ne (by decide), up2_ne (by decide), up2_at]
      have s8 : ∀ k, up2 (up2 (up2 (up2 (snI I t p n b) 332 t p) 333 t n) 334 t b) 311 40 (nI (t + 1)) 258 k = if k = t then n else I 258 k := fun k => by
        rw [up2_ne (by decide), up2_ne (by decide), up2_ne (by decide), up2_ne (by decide)]
        unfold snI
        rw [up2_ne (by decide), up2_ne (by decide), up2_at, up2_ne (by decide)]
      have s9 : ∀ k, up2 (up2 (up2 (up2 (snI I t p n b) 332 t p) 333 t n) 334 t b) 311 40 (nI (t + 1)) 259 k = if k = t then b else I 259 k := fun k => by
        rw [up2_ne (by decide), up2_ne (by decide), up2_ne (by decide), up2_ne (by decide)]
        unfold snI
        rw [up2_ne (by decide), up2_at, up2_ne (by decide), up2_ne (by decide), eb]
      have q2 : ∀ k, up2 (up2 (up2 (up2 (snI I t p n b) 332 t p) 333 t n) 334 t b) 311 40 (nI (t + 1)) 332 k = if k = t then p else I 332 k := fun k => by
        rw [up2_ne (by decide), up2_ne (by decide), up2_ne (by decide), up2_at, lo 332 (by decide)]
      have q3 : ∀ k, up2 (up2 (up2 (up2 (snI I t p n b) 332 t p) 333 t n) 334 t b) 311 40 (nI (t + 1)) 333 k = if k = t then n else I 333 k := fun k => by
        rw [up2_ne (by decide), up2_ne (by decide), up2_at, up2_ne (by decide), lo 333 (by decide)]
      have q4 : ∀ k, up2 (up2 (up2 (up2 (snI I t p n b) 332 t p) 333 t n) 334 t b) 311 40 (nI (t + 1)) 334 k = if k = t then b else I 334 k := fun k => by
        rw [up2_ne (by decide), up2_at, up2_ne (by decide), up2_ne (by decide), lo 334 (by decide)]
      rw [s7, s8, s9, q2, q3, q4]
      by_cases e : k = t
      · rw [if_pos e, if_pos e, if_pos e, if_pos e, if_pos e, if_pos e]
        obtain ⟨m, m1, m2, em⟩ := in_i (x := n) (a := 1) (b := 30) (by decide) c'.2.1 (by decide)
        subst em
        refine ⟨rfl, rfl, rfl, ?_, vp_in_nI (by omega) (by decide)⟩
        rw [nI_clamp (by omega)]
        exact m1
      · rw [if_neg e, if_neg e, if_neg e, if_neg e, if_neg e, if_neg e]
        exact h4 k (by omega)
  · rw [if_neg c, if_neg c] at r1
    have r2 := r_seen (E := E) (d := d + 58) hG (I := I) hP.1.1 hP.2.1.2.1 hS.1 hS.2.2.1 p n hb
    rw [if_neg (fun z => c (iff.mpr z)), if_neg (fun z => c (iff.mpr z))] at r2
    exact ⟨_, _, _, _, _, r1, hG, r2, rfl, hX⟩
/-! refusals -/
theorem JI.refuse (h : JI I) {w : Nat} (hw : w < 5) : JI (up2 (up2 I 262 w (I 262 w + 1)) 329 w (I 329 w + 1)) := by
  obtain ⟨-, -, -, -, hO⟩ := id h
  obtain ⟨h1, h2, h3, h4, h5⟩ := hO
  refine h.setO (fun b j q => by rw [up2_o (by unfold rdO at q; omega), up2_o (by unfold rdO at q; omega)]) ⟨fun x hx => ?_, by rw [up2_ne (by decide), up2_ne (by decide), up2_ne (by decide), up2_ne (by decide)]; exact h2, by rw [up2_ne (by decide), up2_ne (by decide)]; exact h3, h4.fr (fun b hb => by rw [up2_ne (by omega), up2_ne (by omega)]), by rw [up2_ne (by decide), up2_ne (by decide)]; exact h5⟩
  rw [up2_ne (show (262 : Nat) ≠ 329 by decide), up2_at, up2_at, up2_ne (show (329 : Nat) ≠ 262 by decide), h1 x hx, h1 w hw]
theorem rf_join (h : JI I) {w : Int32} (hw : ∃ k, k < 5 ∧ w = nI k) : JI (rfR (nRf I w) w) := by
  obtain ⟨k, hk, rfl⟩ := hw
  have := h.refuse hk
  unfold rfR nRf rfI
  rw [nI_clamp (by omega), up2_ne (show (329 : Nat) ≠ 262 by decide)]
  exact this
end
