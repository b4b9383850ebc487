/-! THE TWO STATES AT THE START -/
section INM
variable {b : Nat} {M : Md} {C C' : Cd}
/-- the reference as it is made -/
def Mz (M : Md) : Prop := (∀ j, M.1 j = 0) ∧ (∀ k i, k ≠ 6 → k ≠ 26 → k ≠ 17 → M.2 k i = 0) ∧ (∀ t, t < 24 → M.2 6 t = -1 ∧ M.2 26 t = -1) ∧ ∀ k, k < 48 → M.2 17 k = -1
theorem RR_start (hm : Mz M) (W : Wf C) (hz : b + 854 ≤ csz C) (ho : isO C b 14) (x : X1O b C) (r : X11R b C) (t1 : TxV C (b + 845) 30 (fun _ => 0) 0) (t2 : TxV C (b + 848) 60 (fun _ => 0) 0) (t3 : TxV C (b + 851) 90 (fun _ => 0) 0) (hi : ∀ k, 1406 ≤ k → k ≤ 1409 → cI C k b = 0) : RR b 0 M C := by
  obtain ⟨m1, m2, m3, m4⟩ := hm
  obtain ⟨⟨⟨a1, a2, a3, a4, a5, a6, a7⟩, ⟨q1, q2, q3, q4, q5, q6, q7, q8⟩, v6, n10⟩, xT, xM, xF, xU⟩ := x
  have hX : RXc b C := fun f p a hf hp h => by
    rw [(xF f hf).2.2.2.2.1.2.2 p] at h
    cases h
  have hL : Lay b C := by
    refine ⟨W, hz, ⟨ho, a1, a2, a3, a4, a5, v6.1, a6, a7, n10.1, n10.2.2.1.1⟩, ⟨r, q1, q2, q3, q4, q5, q6, q7, q8, n10.2.1⟩, fun i hi => ?_, fun j hj => ?_, fun f hf => ?_, xU, t1.1.1, t2.1.1, t3.1.1⟩
    · obtain ⟨h0, h1, ⟨h2, h3, h4, h5⟩, h6, h7, h8, h9⟩ := xT i hi
      exact ⟨h0, h1, h2, h3, h4, h7.1, h7.2.1, h7.2.2.1.1, ⟨h8.1, h8.2.1⟩, ⟨h9.1, h9.2.1⟩⟩
    · obtain ⟨h0, h1, ⟨h2, h3⟩, h4, h5, h6⟩ := xM j hj
      exact ⟨h0, h1, h2, h3, h5, h6⟩
    · obtain ⟨h0, h1, ⟨h2, h3, h4⟩, h5, ⟨h6, h7, _⟩, h8⟩ := xF f hf
      exact ⟨h0, h1, h2, h3, h4, h5, ⟨h6, h7⟩, h8⟩
  refine ⟨⟨hL, hX, v6, ⟨_, _, t2⟩, _, _, t3⟩, ⟨0, fun _ => 0, m1 1, by decide, t1, fun k hk => absurd hk (by omega), fun k hk => absurd hk (by omega)⟩, ?_, ?_, fun t ht => ?_, fun j hj => ?_, ⟨fun _ => 0, fun _ => 0, fun _ => 0, fun _ => 0, 0, 0, 0, ?_, ?_⟩, fun t ht => ?_⟩
  · have h1 := hi 1409 (by decide) (by decide)
    have h2 := hi 1406 (by decide) (by decide)
    have h3 := hi 1408 (by decide) (by decide)
    have g2 := m1 2
    have g5 := m1 5
    have g13 := m1 13
    have g71 := m1 71
    have g68 := m1 68
    exact ⟨⟨by omega, by omega, by omega⟩, by omega, by omega, Or.inl g71, by omega, by omega⟩
  · have g5 := m1 5
    have g13 := m1 13
    have g22 := m1 22
    exact ⟨⟨by omega, by omega⟩, by omega, by omega, by omega⟩
  · obtain ⟨h0, h1, h2, ⟨h3, h4⟩, h7, h8, h9⟩ := xT t ht
    have g3 := m2 3 t (by decide) (by decide) (by decide)
    have g4 := m2 4 t (by decide) (by decide) (by decide)
    refine ⟨⟨by omega, by omega, by omega⟩, ⟨by omega, by omega, by omega⟩, fun l hl => ?_⟩
    have g17 := m4 (24 * l + t) (by omega)
    have e := h8.2.2 (l + 1) (by omega)
    exact ⟨⟨by omega, by omega, by omega⟩, fun h => absurd g17 h⟩
  · obtain ⟨h0, h1, h2, h4, h5, h6⟩ := xM j hj
    exact ⟨0, m2 21 j (by decide) (by decide) (by decide), ⟨h4, by decide, fun k hk => absurd hk (by omega)⟩, fun k hk => absurd hk (by omega)⟩
  · refine ⟨⟨⟨m1 8, by decide, fun v hv => absurd hv (by omega), fun v hv => absurd hv (by omega), fun v hv => absurd hv (by omega)⟩, fun v hv => absurd hv (by omega), hi 1407 (by decide) (by decide)⟩, ⟨m1 7, by decide, fun v hv => absurd hv (by omega)⟩, ⟨m1 13, by decide, fun v hv => absurd hv (by omega)⟩, ⟨fun t ht => Or.inl ⟨(m3 t ht).1, (xT t ht).2.2.1.2.2.2⟩, fun t t' ht ht' h => Or.inl (m3 t ht).1⟩, fun v hv => absurd hv (by omega), fun v hv => absurd hv (by omega), fun v hv => absurd hv (by omega)⟩
  · have g22 := m1 22
    refine ⟨fun t ht => ?_, fun k hk => ?_, fun k hk => ?_, fun k hk => ?_, fun k hk => ?_⟩
    · rw [(m3 t ht).2]
      unfold prAt
      rw [if_pos (m3 t ht).1]
    · have := m2 23 k (by decide) (by decide) (by decide); omega
    · have := m2 24 k (by decide) (by decide) (by decide); omega
    · have := m2 25 k (by decide) (by decide) (by decide); omega
    · have := m2 28 k (by decide) (by decide) (by decide); omega
  · obtain ⟨h0, h1, h2, h3, h7, h8, h9⟩ := xT t ht
    obtain ⟨p1, p2, p3, p4⟩ := h7
    have g27 := m2 27 t (by decide) (by decide) (by decide)
    have g32 := m2 32 t (by decide) (by decide) (by decide)
    have c1 := p4 701 (by decide) (by decide)
    refine ⟨[], 0, 0, 0, 0, 0, ⟨by omega, Or.inl g27⟩, Or.inl (p4 702 (by decide) (by decide)), p3, ⟨⟨p4 703 (by decide) (by decide), by decide⟩, ⟨p4 704 (by decide) (by decide), by decide⟩, ⟨p4 705 (by decide) (by decide), by decide⟩, ⟨p4 706 (by decide) (by decide), by decide⟩, ⟨p4 707 (by decide) (by decide), by decide⟩⟩, g32, fun h => by omega, fun _ => ⟨rfl, rfl, rfl, rfl, rfl, rfl⟩⟩
end INM
