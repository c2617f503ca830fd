/-! ===== class and reference: feeding the tape, faults ===== -/
theorem byt_lt (x s : Int32) : ∃ v, v < 256 ∧ byt x s = nI v := by
  obtain ⟨b, h1, h2⟩ := and_lt (P := 8) (t := 255) (by decide) (ush x s)
  refine ⟨b, h1, ?_⟩
  unfold byt
  rw [Int32.and_comm]
  exact h2
def FS (C R : IM) (s : Nat) : Prop := C 1 1 = nI s ∧ R 311 2 = nI s ∧ R 312 = C 2 ∧ ∀ k, k < s → ∃ x, x < 256 ∧ C 2 k = nI x
def cnt (x : Int32) : Nat := if x = 0 then 0 else 1
theorem FS.step {C R : IM} {s : Nat} (h : FS C R s) {x : Int32} (hx : ∃ v, v < 256 ∧ x = nI v) (hs : s + cnt x ≤ 240) : FS (ap1 C x) (tp1 R x) (s + cnt x) := by
  obtain ⟨h1, h2, h3, h4⟩ := h
  unfold ap1 tp1
  by_cases c : x = 0
  · rw [if_pos c, if_pos c]
    have : cnt x = 0 := if_pos c
    rw [this]
    exact ⟨h1, h2, h3, h4⟩
  · have e1 : cnt x = 1 := if_neg c
    rw [e1] at hs ⊢
    rw [if_neg c, if_neg c, h1, h2, if_neg (show ¬ (240 : Int32) ≤ nI s from nI_ge (b := 240) (by omega) (by decide)), nI_clamp (by omega), nI_1]
    refine ⟨up2_sa _ _ _ _, up2_sa _ _ _ _, ?_, fun k hk => ?_⟩
    · funext j
      rw [up2_ne (show (312 : Nat) ≠ 311 by decide), up2_ne (show (2 : Nat) ≠ 1 by decide), up2_at, up2_at, h3]
    · rw [up2_ne (by decide), up2_at]
      by_cases e : k = s
      · rw [if_pos e]
        exact hx
      · rw [if_neg e]
        exact h4 k (by omega)
theorem bcN_c (g : Nat → Int32) (n : Nat) : bcN g (n + 1) = bcN g n + cnt (g n) := rfl
theorem FS.fold {C R : IM} {s : Nat} (h : FS C R s) {g : Nat → Int32} (hg : ∀ k, ∃ v, v < 256 ∧ g k = nI v) : ∀ n, s + bcN g n ≤ 240 → FS (foldN (fun k J => ap1 J (g k)) n C) (foldN (fun k J => tp1 J (g k)) n R) (s + bcN g n)
  | 0, _ => h
  | n + 1, hn => by
    rw [bcN_c, ← Nat.add_assoc] at hn ⊢
    rw [foldN_s, foldN_s]
    exact (FS.fold h hg n (by omega)).step (hg n) hn
theorem ap1_o {I : IM} {x : Int32} {b k : Nat} (h : ¬ rdTp b k) : ap1 I x b k = I b k := by
  unfold ap1
  by_cases c : x = 0
  · rw [if_pos c]
  · rw [if_neg c]
    by_cases c2 : 240 ≤ I 1 1
    · rw [if_pos c2]
    · rw [if_neg c2, up2_o (by unfold rdTp at h; omega), up2_o (by unfold rdTp at h; omega)]
theorem apN_o {g : Nat → Int32} {b k : Nat} (h : ¬ rdTp b k) : ∀ (n : Nat) (I : IM), foldN (fun k J => ap1 J (g k)) n I b k = I b k
  | 0, _ => rfl
  | n + 1, I => by
    rw [foldN_s, ap1_o h]
    exact apN_o h n I
theorem tp1_o {I : IM} {x : Int32} {b k : Nat} (h : ¬ rdTp b k) : tp1 I x b k = I b k := by
  unfold tp1
  by_cases c : x = 0
  · rw [if_pos c]
  · rw [if_neg c, up2_o (by unfold rdTp at h; omega), up2_o (by unfold rdTp at h; omega)]
theorem tpN_o {g : Nat → Int32} {b k : Nat} (h : ¬ rdTp b k) : ∀ (n : Nat) (I : IM), foldN (fun k J => tp1 J (g k)) n I b k = I b k
  | 0, _ => rfl
  | n + 1, I => by
    rw [foldN_s, tp1_o h]
    exact tpN_o h n I
theorem ap1_hi {I : IM} {x : Int32} {b : Nat} (h : 3 ≤ b) : ap1 I x b = I b := by
  unfold ap1
  by_cases c : x = 0
  · rw [if_pos c]
  · rw [if_neg c]
    by_cases c2 : 240 ≤ I 1 1
    · rw [if_pos c2]
    · rw [if_neg c2, up2_ne (by omega), up2_ne (by omega)]
theorem apN_hi {g : Nat → Int32} {b : Nat} (h : 3 ≤ b) : ∀ (n : Nat) (I : IM), foldN (fun k J => ap1 J (g k)) n I b = I b
  | 0, _ => rfl
  | n + 1, I => by
    rw [foldN_s, ap1_hi h]
    exact apN_hi h n I
theorem tp1_lo {I : IM} {x : Int32} {b : Nat} (h : b < 311) : tp1 I x b = I b := by
  unfold tp1
  by_cases c : x = 0
  · rw [if_pos c]
  · rw [if_neg c, up2_ne (by omega), up2_ne (by omega)]
theorem tpN_lo {g : Nat → Int32} {b : Nat} (h : b < 311) : ∀ (n : Nat) (I : IM), foldN (fun k J => tp1 J (g k)) n I b = I b
  | 0, _ => rfl
  | n + 1, I => by
    rw [foldN_s, tp1_lo h]
    exact tpN_lo h n I
theorem ap4_f {g : Nat → Int32} {n : Nat} {x : Int32} {I : IM} (h0 : g n = byt x 24) (h1 : g (n + 1) = byt x 16) (h2 : g (n + 2) = byt x 8) (h3 : g (n + 3) = byt x 0) : foldN (fun k J => ap1 J (g k)) (n + 4) I = ap4 (foldN (fun k J => ap1 J (g k)) n I) x := by
  unfold ap4
  rw [foldN_s, foldN_s, foldN_s, foldN_s, h0, h1, h2, h3]
theorem nFeed_f (I : IM) (a b c e f : Int32) : nFeed I a b c e f = foldN (fun k J => ap1 J (bk a b c e f k)) 20 I := by
  unfold nFeed
  rw [show (20 : Nat) = 0 + 4 + 4 + 4 + 4 + 4 from rfl, ap4_f (x := f) rfl rfl rfl rfl, ap4_f (x := e) rfl rfl rfl rfl, ap4_f (x := c) rfl rfl rfl rfl, ap4_f (x := b) rfl rfl rfl rfl, ap4_f (x := a) rfl rfl rfl rfl, foldN_0]
def n4 (x : Int32) : Nat := cnt (byt x 24) + cnt (byt x 16) + cnt (byt x 8) + cnt (byt x 0)
theorem bc_20 (a b c e f : Int32) : bcN (bk a b c e f) 20 = n4 a + n4 b + n4 c + n4 e + n4 f := by
  have h : bcN (bk a b c e f) 20 = 0 + cnt (byt a 24) + cnt (byt a 16) + cnt (byt a 8) + cnt (byt a 0) + cnt (byt b 24) + cnt (byt b 16) + cnt (byt b 8) + cnt (byt b 0) + cnt (byt c 24) + cnt (byt c 16) + cnt (byt c 8) + cnt (byt c 0) + cnt (byt e 24) + cnt (byt e 16) + cnt (byt e 8) + cnt (byt e 0) + cnt (byt f 24) + cnt (byt f 16) + cnt (byt f 8) + cnt (byt f 0) := rfl
  rw [h]
  unfold n4
  omega
theorem bcS_n (x s : Int32) (k : Nat) : bcS x s (nI k) = nI (k + cnt (byt x s)) := by
  unfold bcS cnt
  by_cases c : byt x s = 0
  · rw [if_pos c, if_pos c]; rfl
  · rw [if_neg c, if_neg c, nI_1]
theorem bytN_n (x : Int32) : bytN x = nI (n4 x) := by
  have h : bytN x = bcS x 0 (bcS x 8 (bcS x 16 (bcS x 24 (nI 0)))) := rfl
  rw [h, bcS_n, bcS_n, bcS_n, bcS_n]
  congr 1
  unfold n4
  omega
theorem cnt_le (x : Int32) : cnt x ≤ 1 := by
  unfold cnt
  split <;> omega
section
variable {E : EV} {d : Nat} {G : GD} {I : IM}
theorem j_feed (hX : JX G I) (a b c e f : Int32) : JRes E d G I mX10_feed mX11_feed [.int a, .int b, .int c, .int e, .int f] := by
  obtain ⟨hG, hv, ⟨L, hT⟩, -, -, -, -⟩ := id hX
  have r1 := m_feed (E := E) (d := d + 59) hG ⟨L, hT.1, hT.2.1⟩ a b c e f
  have h20 := bcN_le (bk a b c e f) 20
  have iff : aFeed I a b c e f ↔ L + bcN (bk a b c e f) 20 ≤ 240 := by
    unfold aFeed
    rw [hT.2.1, bytN_n, bytN_n, bytN_n, bytN_n, bytN_n, nI_add, nI_add, nI_add, nI_add, nI_add, ← bc_20, show (240 : Int32) = nI 240 from rfl]
    have := hT.1
    constructor
    · intro z
      by_cases y : L + bcN (bk a b c e f) 20 ≤ 240
      · exact y
      · exact absurd z (nI_ge (by omega) (by omega))
    · intro z
      exact nI_le z (by decide)
  by_cases cc : aFeed I a b c e f
  · rw [if_pos cc, if_pos cc] at r1
    have c' := iff.mp cc
    have c0 : e311 I (nFeed I a b c e f) := fun x hx => by
      rw [nFeed_f]
      exact apN_hi (by omega) 20 I
    have r2 := r_feed (E := E) (d := d + 59) hG hT.1 (I := nFeed I a b c e f) (by rw [c0 311 (by decide)]; exact hT.2.2.1) a b c e f
    rw [if_pos c', if_pos c'] at r2
    have hg : ∀ k, ∃ v, v < 256 ∧ bk a b c e f k = nI v := fun k => byt_lt _ _
    have hF := FS.fold (C := I) (R := nFeed I a b c e f) (s := L) ⟨hT.2.1, by rw [c0 311 (by decide)]; exact hT.2.2.1, by rw [c0 312 (by decide)]; exact hT.2.2.2.1, hT.2.2.2.2⟩ hg 20 c'
    rw [← nFeed_f] at hF
    obtain ⟨f1, f2, f3, f4⟩ := hF
    rw [f1] at r1
    refine ⟨_, _, _, _, _, r1, hG, r2, rfl, hG, hv, ?_⟩
    refine hX.2.2.setT (L := L + bcN (bk a b c e f) 20) (fun x k q => ?_) ⟨c', ?_, f2, ?_, ?_⟩
    · rw [tpN_o q, nFeed_f, apN_o q]
    · rw [tpN_lo (by decide)]
      exact f1
    · rw [f3, tpN_lo (by decide)]
    · rw [tpN_lo (by decide)]
      exact f4
  · rw [if_neg cc, if_neg cc] at r1
    have r2 := r_feed (E := E) (d := d + 59) hG hT.1 (I := I) hT.2.2.1 a b c e f
    rw [if_neg (fun z => cc (iff.mpr z)), if_neg (fun z => cc (iff.mpr z))] at r2
    exact ⟨_, _, _, _, _, r1, hG, r2, rfl, hX⟩
theorem tr_ok0 (I : IM) (L : Nat) : TRok L (clD (sgI I 12 L)) := ⟨by rw [clD_ne _ (by decide) (by decide) (by decide)]; exact up2_sa _ _ _ _, ⟨0, by omega, by rw [clD_4]; rfl⟩, ⟨0, by omega, by rw [clD_4]; rfl⟩⟩
theorem tfS_o (I : IM) (L : Nat) {b : Nat} (hb : b < 3 ∨ 14 < b) : (tfS L I).1 b = I b := by
  unfold tfS
  rw [(tlF_ok L 241 (clD (sgI I 12 L)) 0 (-1) (tr_ok0 I L) (Nat.zero_le _)).2.2 b (by omega), clD_ne _ (by omega) (by omega) (by omega)]
  exact up2_ne (by omega)
theorem tfI_o (I : IM) (L : Nat) {b : Nat} (hb : b < 3 ∨ 14 < b) : tfI L I b = I b := by
  unfold tfI
  rw [pI_ne (by omega), up2_ne (by omega), tfS_o I L hb]
theorem tfI_Z (I : IM) (L : Nat) : eqZ I (tfI L I) := fun b k q => by rw [tfI_o I L (by unfold scr at q; omega)]
theorem lq_Z (h23 : I 23 3 = 0) (L a : Nat) (F : Int32) (cl : Nat) (row : Nat → Int32) : eqZ I (lq (sgI I 25 L) a F cl row 0) := fun b k q => by
  unfold scr at q
  unfold lq
  rw [pI_ne (by omega)]
  by_cases e : b = 23
  · subst e
    have hk : k = 3 := by omega
    subst hk
    rw [up2_sa]
    exact h23.symm
  · rw [up2_ne e, up2_ne e, rwI_ne (by omega)]
    exact congrFun (up2_ne (by omega)) k
theorem j_fault (hX : JX G I) (s : Int32) : JRes E d G I mX10_fault mX11_fault [.int s] := by
  obtain ⟨hG, hv, ⟨L, hT⟩, -, -, -, hO⟩ := id hX
  by_cases c0 : s = 0
  · subst c0
    have r1 := m_fault0 (E := E) (d := d + 52) hG hv hT.1 hT.2.1
    have z := tfI_Z I L
    have hi := Z311 z
    obtain ⟨J, j1, j2⟩ := r_fault0 (E := E) (d := d + 54) (gS_12 hG) hT.1 (I := tfI L I) (C := I) hO.2.2.2.1 hT.2.2.2.2 (by rw [hi 311 (by decide)]; exact hT.2.2.1) (by rw [hi 312 (by decide)]; exact hT.2.2.2.1)
    exact ⟨_, _, _, _, _, r1, gS_12 hG, j2, rfl, gS_12 hG, hv, (hX.2.2.Z z).W j1.W2⟩
  · by_cases c1 : s = 1
    · subst c1
      obtain ⟨a, cl, rw', r1⟩ := m_fault1 (E := E) (d := d + 28) hG hv hT.1 hT.2.1 hO.2.2.1
      have z := lq_Z (I := I) hO.2.2.1 L a (lfS (I 2) (I 100016) L) cl rw'
      have hi := Z311 z
      obtain ⟨J, j1, j2⟩ := r_fault1 (E := E) (d := d + 9) (gS_25 hG) hT.1 hO.2.2.2.2 hT.2.2.2.2 (J := lq (sgI I 25 L) a (lfS (I 2) (I 100016) L) cl rw' 0) (by rw [hi 311 (by decide)]; exact hT.2.2.1) (by rw [hi 312 (by decide)]; exact hT.2.2.2.1)
      exact ⟨_, _, _, _, _, r1, gS_25 hG, j2, rfl, gS_25 hG, hv, (hX.2.2.Z z).W j1.W2⟩
    · exact JRes.q0 hX (m_fault2 s c0 c1) (r_fault2 s c0 c1) rfl
end
