/-! ===== at first: nothing is told ===== -/
section
variable {G : GD} {I : IM}
theorem ji_first (hI : ∀ b, b < 339 → I b = kI b) (hv : GVv I) (hl : LTok (I 100016)) : JI I := by
  have z : ∀ b, b < 339 → zI b → I b = fun _ => 0 := fun b h1 h2 => (hI b h1).trans (kI_z h2)
  have e311 := hI 311 (by decide)
  have e27 := hI 27 (by decide)
  have e0 := hI 0 (by decide)
  have z0 : ∀ b k, b < 339 → zI b → I b k = 0 := fun b k h1 h2 => by rw [z b h1 h2]
  have r0 : ∀ N, rng 0 N := fun N => ⟨0, Nat.zero_le _, rfl⟩
  refine ⟨⟨0, by decide, (z0 1 1 (by decide) (by decide)).trans rfl, by rw [e311]; rfl, by rw [z 312 (by decide) (by decide), z 2 (by decide) (by decide)], fun k hk => absurd hk (by omega)⟩, ⟨0, fun _ => [], by decide, by rw [e27]; rfl, by rw [e311]; rfl, by rw [e311, e27]; rfl, Or.inl (by rw [e27]; rfl), fun h hh => absurd hh (by omega)⟩, ⟨0, 0, ?_, 0, 0, fun _ => 0, ?_⟩, ⟨0, by decide, (z0 256 5 (by decide) (by decide)).trans rfl, by rw [e311]; rfl, fun k hk => absurd hk (by omega)⟩, fun w _ => by rw [z 329 (by decide) (by decide), z 262 (by decide) (by decide)], by rw [e311, e0]; rfl, z0 23 3 (by decide) (by decide), hv, hl⟩
  · have t0 : ∀ r k, inSt r k → tdV I 0 0 r k = 0 := fun r k hr => by
      rcases hr with ⟨rfl, hk⟩ | ⟨h1, h2, hk⟩
      · show (if k = 4 then evb 0 else if k = 5 then I 325 1 else 0) = 0
        rw [z0 325 1 (by decide) (by decide)]
        rcases hk with rfl | rfl | rfl <;> decide
      · obtain ⟨r', rfl⟩ : ∃ r', r = r' + 1 := ⟨r - 1, by omega⟩
        show (if k < 0 then I 327 (4 * k + r') else 0) = 0
        exact if_neg (by omega)
    refine ⟨⟨by decide, by decide, fun _ => rfl⟩, ⟨(z0 15 0 (by decide) (by decide)).trans rfl, by rw [e311]; rfl, (z0 15 1 (by decide) (by decide)).trans rfl, by rw [e311]; rfl⟩, ⟨by rw [z0 325 0 (by decide) (by decide), z0 15 2 (by decide) (by decide)], by rw [z0 15 2 (by decide) (by decide)]; exact r0 9⟩, fun p hp => absurd hp (by omega), fun r k hr => ?_, fun k hk => ⟨?_, ?_, ?_, ?_⟩, 0, by decide, ?_⟩
    · rw [t0 r k hr]
      have hr4 : r ≤ 4 := by unfold inSt at hr; omega
      exact z0 (18 + r) k (by omega) (by unfold zI; omega)
    · rw [t0 1 k (by unfold inSt; omega)]; exact r0 4
    · rw [t0 2 k (by unfold inSt; omega)]; exact r0 4
    · rw [t0 3 k (by unfold inSt; omega)]; exact r0 30
    · rw [t0 4 k (by unfold inSt; omega)]; exact r0 2
    · rw [t0 0 4 (by unfold inSt; omega)]; rfl
  · have s0 : ∀ r k, r ≤ 4 → getS I 36 r k = 0 := fun r k hr => z0 (36 + r) k (by omega) (by unfold zI; omega)
    refine ⟨⟨by decide, by decide, (z0 45 1 (by decide) (by decide)).trans rfl, (z0 45 2 (by decide) (by decide)).trans rfl, by rw [e311]; rfl⟩, ⟨fun r k hr => ?_, ?_, (s0 0 6 (by decide)).trans rfl, by decide, (z0 328 51 (by decide) (by decide)).trans rfl, fun j w hj => absurd hj (by decide +revert)⟩, fun m hm => absurd hm (by omega), fun m hm => absurd hm (by omega), Or.inl (by rw [e0]; rfl), by rw [e311, e0]; rfl, fun h => absurd h (by rw [e0]; decide)⟩
    · have hr4 : r ≤ 4 := by unfold inSt at hr; omega
      rw [s0 r k hr4, z 328 (by decide) (by decide)]
      cases r <;> rfl
    · exact ⟨⟨fun k hk => ⟨by rw [s0 1 k (by decide)]; exact r0 4, by rw [s0 2 k (by decide)]; exact r0 4, by rw [s0 3 k (by decide)]; exact r0 30, by rw [s0 4 k (by decide)]; exact r0 2⟩, 0, by decide, s0 0 4 (by decide)⟩, fun _ k hk => s0 3 k (by decide)⟩
end
