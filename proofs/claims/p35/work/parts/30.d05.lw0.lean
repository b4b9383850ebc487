/-! THE LAW'S WIKI AT ITS START -/
section LW0
def Gz : Md := (fun _ => 0, fun k _ => if k = 6 ∨ k = 26 ∨ k = 17 then -1 else 0)
theorem Gz_ok : Mz Gz := ⟨fun _ => rfl, fun k i h6 h26 h17 => if_neg (fun z => by omega), fun t _ => ⟨show (if (6 : Nat) = 6 ∨ (6 : Nat) = 26 ∨ (6 : Nat) = 17 then (-1 : Int) else 0) = -1 by decide, show (if (26 : Nat) = 6 ∨ (26 : Nat) = 26 ∨ (26 : Nat) = 17 then (-1 : Int) else 0) = -1 by decide⟩, fun k _ => show (if (17 : Nat) = 6 ∨ (17 : Nat) = 26 ∨ (17 : Nat) = 17 then (-1 : Int) else 0) = -1 by decide⟩
theorem LW_start {G : Md} (hm : Mz G) : LW 0 0 (fun _ => []) (fun _ _ => 0) G := by
  obtain ⟨m1, m2, m3, m4⟩ := hm
  have m0 : ∀ k i, (k = 3 ∨ k = 4 ∨ k = 27 ∨ k = 32) → G.2 k i = 0 := fun k i hk => m2 k i (by omega) (by omega) (by omega)
  refine ⟨⟨⟨rfl, by decide, fun v hv => absurd hv (Nat.not_lt_zero _), fun v hv => absurd hv (Nat.not_lt_zero _), fun v hv => absurd hv (Nat.not_lt_zero _), by rw [m1 5]; decide, (m1 5).symm⟩, fun t ht => ?_, fun v hv => absurd hv (Nat.not_lt_zero _), ⟨fun t ht => ?_, fun t a c => ⟨m0 27 t (by omega), m0 32 t (by omega)⟩⟩, ⟨⟨by decide, by decide⟩, fun t ht => ?_, fun c hc => ⟨Int.le_refl 0, Int.le_refl 0⟩, fun s hs h27 => ?_⟩⟩, fun t ht h27 => ?_, fun l t hl ht => ?_, ⟨m1 2, fun t ht => m0 3 t (by omega), fun t a c => (m3 t c).1⟩, ⟨rfl, m1 7⟩, m1 8, rfl⟩
  · rw [(m3 t (by omega)).1]
    exact ⟨rfl, by decide, by decide⟩
  · refine ⟨(m0 4 t (by omega)).symm, by rw [m0 4 t (by omega)]; decide, Or.inl ⟨m0 27 t (by omega), rfl, m0 32 t (by omega)⟩⟩
  · refine ⟨⟨Int.le_refl 0, Int.le_refl 0⟩, ?_⟩
    rw [(m3 t (by omega)).2]
    rfl
  · rw [m0 27 s (by omega)] at h27
    exact absurd h27 (by decide)
  · rw [m0 27 t (by omega)] at h27
    exact absurd h27 (by decide)
  · have e := m4 (24 * l + t) (by omega)
    refine ⟨by rw [e]; rfl, by rw [e]; decide, fun z => absurd e z⟩
end LW0
