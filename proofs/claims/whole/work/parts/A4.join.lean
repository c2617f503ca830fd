/-! ===== class and reference side by side: what holds between calls ===== -/
def JT (I : IM) (L : Nat) : Prop := L ≤ 240 ∧ I 1 1 = nI L ∧ I 311 2 = nI L ∧ I 312 = I 2 ∧ ∀ k, k < L → ∃ x, x < 256 ∧ I 2 k = nI x
def JL (I : IM) (N : Nat) (css : Nat → CLs) : Prop := N ≤ 4 ∧ I 27 5 = nI N ∧ I 311 13 = nI N ∧ I 311 29 = I 27 6 ∧ (I 27 6 = -1 ∨ ∃ h, h < N ∧ I 27 6 = nI h) ∧ ∀ h, h < N → LRef I h (css h) ∧ I 33 h = nI ((css h).flatMap clT).length ∧ ((css h).flatMap clT).length ≤ 241 ∧ ∀ i, i < ((css h).flatMap clT).length → I (29 + h) i = ((css h).flatMap clT).getD i 0
def JP (I : IM) (P T : Nat) : Prop := (P ≤ 5 ∧ T ≤ 10 ∧ (P = 0 → T = 0)) ∧ (I 15 0 = nI P ∧ I 311 25 = nI P ∧ I 15 1 = nI T ∧ I 311 26 = nI T) ∧ (I 325 0 = I 15 2 ∧ rng (I 15 2) 9) ∧ (∀ p, p < P → I 326 (2 * p) = I 16 p ∧ I 326 (2 * p + 1) = I 17 p ∧ rng (I 16 p) 9 ∧ rng (I 17 p) 9) ∧ eqS (getS I 18) (tdV I P T) ∧ SVok P (tdV I P T)
def JS (I : IM) (t : Nat) : Prop := t ≤ 10 ∧ I 256 5 = nI t ∧ I 311 40 = nI t ∧ ∀ k, k < t → I 332 k = I 257 k ∧ I 333 k = I 258 k ∧ I 334 k = I 259 k ∧ 1 ≤ (I 258 k).toNatClampNeg ∧ vp_in (I 258 k) 31
def JO (I : IM) : Prop := (∀ w, w < 5 → I 329 w = I 262 w) ∧ I 311 30 = I 0 16 ∧ I 23 3 = 0 ∧ GVv I ∧ LTok (I 100016)
def JI (I : IM) : Prop := (∃ L, JT I L) ∧ (∃ N css, JL I N css) ∧ (∃ P T, JP I P T ∧ ∃ A ptr dm, JB I I P A ptr dm) ∧ (∃ t, JS I t) ∧ JO I
def JX (G : GD) (I : IM) : Prop := GTs G ∧ GVn G ∧ JI I
def rdTp (b k : Nat) : Prop := b = 1 ∧ k = 1 ∨ b = 2 ∨ b = 312 ∨ b = 311 ∧ k = 2
def rdL (b k : Nat) : Prop := b = 27 ∧ (k = 5 ∨ k = 6) ∨ 29 ≤ b ∧ b ≤ 33 ∨ b = 311 ∧ (k = 13 ∨ k = 29) ∨ (b = 313 ∨ b = 314) ∧ k < 2080 ∨ b = 316 ∧ k < 4 ∨ (317 ≤ b ∧ b ≤ 319) ∧ k < 560
def rdP (b k : Nat) : Prop := b = 15 ∨ b = 16 ∨ b = 17 ∨ 18 ≤ b ∧ b ≤ 22 ∨ b = 311 ∧ (k = 25 ∨ k = 26) ∨ b = 325 ∨ b = 326 ∨ b = 327
def rdS (b k : Nat) : Prop := b = 256 ∧ k = 5 ∨ 257 ≤ b ∧ b ≤ 259 ∨ b = 311 ∧ k = 40 ∨ 332 ≤ b ∧ b ≤ 334
def rdO (b k : Nat) : Prop := b = 329 ∨ b = 262 ∨ b = 311 ∧ k = 30 ∨ b = 0 ∧ k = 16 ∨ b = 23 ∧ k = 3 ∨ 100000 ≤ b
theorem JT.fr {I J : IM} {L : Nat} (h : JT I L) (e : ∀ b k, rdTp b k → J b k = I b k) : JT J L := by
  obtain ⟨h1, h2, h3, h4, h5⟩ := h
  have e2 : J 2 = I 2 := funext fun k => e 2 k (by unfold rdTp; omega)
  have e312 : J 312 = I 312 := funext fun k => e 312 k (by unfold rdTp; omega)
  exact ⟨h1, by rw [e 1 1 (by unfold rdTp; omega)]; exact h2, by rw [e 311 2 (by unfold rdTp; omega)]; exact h3, by rw [e2, e312]; exact h4, by rw [e2]; exact h5⟩
theorem LRef.fr {I J : IM} {n : Nat} {cs : CLs} (hn : n < 4) (h : LRef I n cs) (e : ∀ b k, rdL b k → J b k = I b k) : LRef J n cs := by
  obtain ⟨h1, h2, h3, h4, h5⟩ := h
  refine ⟨h1, h2, fun i hi => ?_, ⟨by rw [e 316 n (by unfold rdL; omega)]; exact h4.1, fun i hi => ?_⟩, h5⟩
  · rw [e 313 _ (by unfold rdL; omega), e 314 _ (by unfold rdL; omega)]
    exact h3 i hi
  · rw [e 317 _ (by unfold rdL; omega), e 318 _ (by unfold rdL; omega), e 319 _ (by unfold rdL; omega)]
    exact h4.2 i hi
theorem JL.fr {I J : IM} {N : Nat} {css : Nat → CLs} (h : JL I N css) (e : ∀ b k, rdL b k → J b k = I b k) : JL J N css := by
  obtain ⟨h1, h2, h3, h4, h5, h6⟩ := h
  have e6 : J 27 6 = I 27 6 := e 27 6 (by unfold rdL; omega)
  refine ⟨h1, by rw [e 27 5 (by unfold rdL; omega)]; exact h2, by rw [e 311 13 (by unfold rdL; omega)]; exact h3, by rw [e6, e 311 29 (by unfold rdL; omega)]; exact h4, by rw [e6]; exact h5, fun h hh => ?_⟩
  obtain ⟨k1, k2, k3, k4⟩ := h6 h hh
  exact ⟨k1.fr (by omega) e, by rw [e 33 h (by unfold rdL; omega)]; exact k2, k3, fun i hi => by rw [e (29 + h) i (by unfold rdL; omega)]; exact k4 i hi⟩
theorem tdV_fr {I J : IM} (e : ∀ b k, rdP b k → J b k = I b k) (P T : Nat) : tdV J P T = tdV I P T := by
  funext r k
  cases r with
  | zero =>
    show (if k = 4 then evb P else if k = 5 then J 325 1 else 0) = if k = 4 then evb P else if k = 5 then I 325 1 else 0
    rw [e 325 1 (by unfold rdP; omega)]
  | succ r =>
    show (if k < T then J 327 (4 * k + r) else 0) = if k < T then I 327 (4 * k + r) else 0
    rw [e 327 _ (by unfold rdP; omega)]
theorem JP.fr {I J : IM} {P T : Nat} (h : JP I P T) (e : ∀ b k, rdP b k → J b k = I b k) : JP J P T := by
  obtain ⟨h1, ⟨h2, h3, h4, h5⟩, ⟨h6, h7⟩, h8, h9, h10⟩ := h
  have x : ∀ b k, rdP b k → J b k = I b k := e
  refine ⟨h1, ⟨by rw [e 15 0 (by unfold rdP; omega)]; exact h2, by rw [e 311 25 (by unfold rdP; omega)]; exact h3, by rw [e 15 1 (by unfold rdP; omega)]; exact h4, by rw [e 311 26 (by unfold rdP; omega)]; exact h5⟩, ⟨by rw [e 325 0 (by unfold rdP; omega), e 15 2 (by unfold rdP; omega)]; exact h6, by rw [e 15 2 (by unfold rdP; omega)]; exact h7⟩, fun p hp => ?_, ?_, ?_⟩
  · rw [e 326 (2 * p) (by unfold rdP; omega), e 326 (2 * p + 1) (by unfold rdP; omega), e 16 p (by unfold rdP; omega), e 17 p (by unfold rdP; omega)]
    exact h8 p hp
  · rw [tdV_fr e]
    refine eqS.trans (fun r k hk => ?_) h9
    unfold inSt at hk
    exact e (18 + r) k (by unfold rdP; omega)
  · rw [tdV_fr e]
    exact h10
theorem JS.fr {I J : IM} {t : Nat} (h : JS I t) (e : ∀ b k, rdS b k → J b k = I b k) : JS J t := by
  obtain ⟨h1, h2, h3, h4⟩ := h
  refine ⟨h1, by rw [e 256 5 (by unfold rdS; omega)]; exact h2, by rw [e 311 40 (by unfold rdS; omega)]; exact h3, fun k hk => ?_⟩
  rw [e 332 k (by unfold rdS; omega), e 333 k (by unfold rdS; omega), e 334 k (by unfold rdS; omega), e 257 k (by unfold rdS; omega), e 258 k (by unfold rdS; omega), e 259 k (by unfold rdS; omega)]
  exact h4 k hk
theorem GVv.fr {I J : IM} (h : GVv I) (e : ∀ b, 100000 ≤ b → J b = I b) : GVv J := by
  unfold GVv
  rw [e 100014 (by decide), e 100001 (by decide), e 100002 (by decide), e 100015 (by decide), e 100003 (by decide), e 100004 (by decide), e 100013 (by decide), e 100005 (by decide), e 100006 (by decide)]
  exact h
theorem JO.fr {I J : IM} (h : JO I) (e : ∀ b k, rdO b k → J b k = I b k) : JO J := by
  obtain ⟨h1, h2, h3, h4, h5⟩ := h
  have eg : ∀ b, 100000 ≤ b → J b = I b := fun b hb => funext fun k => e b k (by unfold rdO; omega)
  refine ⟨fun w hw => by rw [e 329 w (by unfold rdO; omega), e 262 w (by unfold rdO; omega)]; exact h1 w hw, by rw [e 311 30 (by unfold rdO; omega), e 0 16 (by unfold rdO; omega)]; exact h2, by rw [e 23 3 (by unfold rdO; omega)]; exact h3, h4.fr eg, by rw [eg 100016 (by decide)]; exact h5⟩
def rdA (b k : Nat) : Prop := rdTp b k ∨ rdL b k ∨ rdP b k ∨ rdS b k ∨ rdO b k ∨ rdB b k ∨ rdBr b k
theorem JI.fr {I J : IM} (h : JI I) (e : ∀ b k, rdA b k → J b k = I b k) : JI J := by
  obtain ⟨⟨L, h1⟩, ⟨N, css, h2⟩, ⟨P, T, h3, A, ptr, dm, h4⟩, ⟨t, h5⟩, h6⟩ := h
  refine ⟨⟨L, h1.fr (fun b k q => e b k ?_)⟩, ⟨N, css, h2.fr (fun b k q => e b k ?_)⟩, ⟨P, T, h3.fr (fun b k q => e b k ?_), A, ptr, dm, h4.fr (fun b k q => e b k ?_) (fun b k q => e b k ?_)⟩, ⟨t, h5.fr (fun b k q => e b k ?_)⟩, h6.fr (fun b k q => e b k ?_)⟩
  · exact Or.inl q
  · exact Or.inr (Or.inl q)
  · exact Or.inr (Or.inr (Or.inl q))
  · exact Or.inr (Or.inr (Or.inr (Or.inr (Or.inr (Or.inl q)))))
  · exact Or.inr (Or.inr (Or.inr (Or.inr (Or.inr (Or.inr q)))))
  · exact Or.inr (Or.inr (Or.inr (Or.inl q)))
  · exact Or.inr (Or.inr (Or.inr (Or.inr (Or.inl q))))
theorem JI.Z {I J : IM} (h : JI I) (e : eqZ I J) : JI J := h.fr (fun b k q => e b k (by
  unfold rdA rdTp rdL rdP rdS rdO rdB rdBr at q
  unfold scr
  omega))
/-- what of the reference's only waits -/
def scR (b k : Nat) : Prop := b = 320 ∨ b = 321 ∨ b = 331 ∨ b = 335 ∨ b = 336 ∨ b = 322 ∨ b = 323 ∨ b = 324 ∨ b = 311 ∧ (k = 0 ∨ k = 3 ∨ k = 4 ∨ k = 5 ∨ k = 14 ∨ k = 20 ∨ k = 21 ∨ k = 35 ∨ k = 36) ∨ (b = 313 ∨ b = 314) ∧ 2080 ≤ k ∨ b = 315 ∨ b = 316 ∧ 4 ≤ k ∨ (317 ≤ b ∧ b ≤ 319) ∧ 560 ≤ k
def eqW2 (I J : IM) : Prop := ∀ b k, ¬ scR b k → J b k = I b k
theorem JI.W {I J : IM} (h : JI I) (e : eqW2 I J) : JI J := h.fr (fun b k q => e b k (by
  unfold rdA rdTp rdL rdP rdS rdO rdB rdBr at q
  unfold scR
  omega))
theorem eqR.W2 {I J : IM} (h : eqR I J) : eqW2 I J := fun b k q => h b k (by unfold scR at q; omega)
theorem eqT.W2 {I J : IM} (h : eqT I J) : eqW2 I J := fun b k q => h b k (by unfold scR at q; omega)
theorem cfr.W2 {I J : IM} (h : cfr 4 I J) : eqW2 I J := fun b k q => h b k (by unfold scR at q; omega)
theorem JI.R {I J : IM} (h : JI I) (e : eqR I J) : JI J := h.W e.W2
theorem rp_back {I J : IM} (h : eqR I J) : rp J (rv I) = J := by rw [← rv_congr h.r328, rp_rv]
/-! what follows from it -/
theorem clT_cd {c : List Int32 × List Int32} (h : clOK c) : ∀ x ∈ clT c, ¬ 10000 ≤ x ∨ 20000 ≤ x ∨ vp_in (x - 10000) 6 := by
  have tk : ∀ x, tokP x → ¬ 10000 ≤ x ∨ 20000 ≤ x ∨ vp_in (x - 10000) 6 := fun x hx => by
    rcases hx with ⟨v, hv, rfl⟩ | ⟨j, hj, rfl⟩ | rfl | rfl | rfl | rfl | rfl | rfl | rfl | rfl | rfl | rfl
    · exact Or.inl (Int32.not_le.mpr (nI_lt (b := 10000) hv (by decide)))
    · refine Or.inr (Or.inr ?_)
      rw [show (10000 : Int32) = nI 10000 from rfl, pk_sub (by omega), Nat.add_sub_cancel_left]
      exact vp_in_nI hj (by decide)
    all_goals exact Or.inr (Or.inl (by decide))
  intro x hx
  obtain ⟨h1, h2⟩ := h
  by_cases e : c.1 = []
  · rw [clT_n e] at hx
    rcases List.mem_append.mp hx with hx | hx
    · exact tk x (h2.2.2 x hx)
    · rw [List.mem_singleton.mp hx]
      exact Or.inr (Or.inl (by decide))
  · rw [clT_y e] at hx
    rcases List.mem_append.mp hx with hx | hx
    · rcases List.mem_append.mp hx with hx | hx
      · rcases List.mem_append.mp hx with hx | hx
        · exact tk x ((h1.resolve_left e).2.2 x hx)
        · rw [List.mem_singleton.mp hx]
          exact Or.inr (Or.inl (by decide))
      · exact tk x (h2.2.2 x hx)
    · rw [List.mem_singleton.mp hx]
      exact Or.inr (Or.inl (by decide))
theorem JL.ok {I : IM} {N : Nat} {css : Nat → CLs} (h : JL I N css) : LawOK I := by
  obtain ⟨h1, h2, h3, h4, h5, h6⟩ := h
  refine ⟨N, h1, h2, h5, fun h hh => ?_⟩
  obtain ⟨k1, k2, k3, k4⟩ := h6 h hh
  refine ⟨_, k3, k2, fun j hj => ?_⟩
  rw [k4 j hj]
  have hm : ((css h).flatMap clT).getD j 0 ∈ (css h).flatMap clT := by
    rw [List.getD_eq_getElem?_getD, List.getElem?_eq_getElem hj]
    exact List.getElem_mem hj
  obtain ⟨c, hc, hx⟩ := List.mem_flatMap.mp hm
  exact clT_cd (k1.2.2.2.2 c hc) _ hx
theorem JS.ok {I : IM} {t : Nat} (h : JS I t) : SeenOK I := ⟨t, h.1, h.2.1, fun k hk => (h.2.2.2 k hk).2.2.2⟩
theorem JS.not {I : IM} {t : Nat} (h : JS I t) : NotOK I t := ⟨h.1, h.2.2.1, fun k hk => by
  obtain ⟨-, e, -, h1, h2⟩ := h.2.2.2 k hk
  rw [e]
  exact ⟨h1, h2⟩⟩
theorem JP.r0 {I : IM} {P T : Nat} (h : JP I P T) : rng (I 15 0) 5 := ⟨P, h.1.1, h.2.1.1⟩
theorem JP.r1 {I : IM} {P T : Nat} (h : JP I P T) : rng (I 15 1) 10 := ⟨T, h.1.2.1, h.2.1.2.2.1⟩
theorem JB.r45 {C R : IM} {P A ptr : Nat} {dm : Nat → Nat} (h : JB C R P A ptr dm) : rng (C 45 1) 39 := ⟨ptr, by have := h.1.2.1; omega, h.1.2.2.1⟩
theorem JB.st {C R : IM} {P A ptr : Nat} {dm : Nat → Nat} (h : JB C R P A ptr dm) : eqS (rv R) (getS C 36) := by rw [rv_bv]; exact h.2.1.1
theorem JB.ok {C R : IM} {P A ptr : Nat} {dm : Nat → Nat} (h : JB C R P A ptr dm) : SVok P (getS C 36) := h.2.1.2.1.1
theorem JB.none {C R : IM} {P A ptr : Nat} {dm : Nat → Nat} (h : JB C R P A ptr dm) (z : P = 0) : ∀ k, k < 12 → C 39 k = 0 := h.2.1.2.1.2 z
theorem JB.okR {C R : IM} {P A ptr : Nat} {dm : Nat → Nat} (h : JB C R P A ptr dm) : SVok P (rv R) := h.ok.congr h.st.symm
theorem JB.day {C R : IM} {P A ptr : Nat} {dm : Nat → Nat} (h : JB C R P A ptr dm) : C 36 6 = nI (dm A) ∧ dm A ≤ 999 := ⟨h.2.1.2.2.1, h.2.1.2.2.2.1⟩
theorem JB.r6 {C R : IM} {P A ptr : Nat} {dm : Nat → Nat} (h : JB C R P A ptr dm) : rng (C 36 6) 999 := ⟨dm A, h.day.2, h.day.1⟩
theorem JP.rok {I : IM} {P T A ptr : Nat} {dm : Nat → Nat} (h : JP I P T) {C : IM} (hb : JB C I P A ptr dm) : ROK P I := by
  refine ⟨h.1.1, h.2.1.2.1, by rw [h.2.2.1.1]; exact h.2.2.1.2, ⟨A, hb.1.1, hb.1.2.2.2.2⟩, ⟨min 60 (dm A), by omega, hb.2.1.2.2.2.2.1⟩, hb.okR⟩
/-- the weights of both are the same -/
theorem JL.wh {E : EV} {I : IM} {N P T : Nat} {css : Nat → CLs} (h : JL I N css) (hp : JP I P T) : ∃ W : SV → Int32 → Int32 → Int32, (∀ G J, GTs G → lsE I J → WH E G J P W) ∧ (∀ V p q, rng (W V p q) 30) ∧ ∀ D, rng D 9999 → agr P D W (wgt I) := by
  obtain ⟨h1, h2, h3, h4, h5, h6⟩ := h
  obtain ⟨cs, hcs⟩ : ∃ cs : CLs, I 27 6 = -1 ∨ ∃ h, h < 4 ∧ I 27 6 = nI h ∧ LRef I h cs ∧ I 33 h = nI (cs.flatMap clT).length ∧ (cs.flatMap clT).length ≤ 241 ∧ ∀ i, i < (cs.flatMap clT).length → I (29 + h) i = (cs.flatMap clT).getD i 0 := by
    rcases h5 with z | ⟨h, hh, e⟩
    · exact ⟨[], Or.inl z⟩
    · exact ⟨css h, Or.inr ⟨h, by omega, e, h6 h hh⟩⟩
  refine ⟨wR I cs, fun G J hG hJ => ?_, fun V p q => wR_rng I cs V p q, fun D hD V p q hV hp1 hq1 => ?_⟩
  · have ew : wR I cs = wR J cs := by
      unfold wR
      rw [hJ.2.1, hJ.2.2.2.1]
    rw [ew]
    refine wh_R hG hp.1.1 ?_
    rw [hJ.2.2.2.1, h4]
    rcases hcs with z | ⟨h, hh, e, r, -⟩
    · exact Or.inl z
    · exact Or.inr ⟨h, hh, e, r.row hJ.1⟩
  · refine wR_eq (P := P) hp.1.1 h4 ?_ hp.2.2.2.1 (by rw [hV]; exact hD) hp1 hq1
    rcases hcs with z | ⟨h, hh, e, r, r2, r3, r4⟩
    · exact Or.inl z
    · exact Or.inr ⟨h, hh, e, _, r2, rfl, r3, r4, r.2.2.2.2⟩
