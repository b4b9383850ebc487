/-! EXPANDING, on both sides at once -/
section EXPO
variable {b kc : Nat} {M M' : Md} {C C' : Cd} {VA PA LE AA : Nat → Nat} {nv np na t : Nat}
theorem sX_qt (hX : RXc b C) : Qt b (sX b (DyC b C)) := by
  have dy : ∀ d, DyC b C d → b + 854 ≤ d := fun d ⟨ff, p, hf, hp, hd⟩ => (hX ff p d hf hp hd).2.1
  intro q k a z ha
  rcases z with ⟨h, h2 | h2 | ⟨h2, h3 | h3⟩ | ⟨h2, ff, h3, h4⟩ | ⟨h2, ff, h3, h4⟩⟩ | ⟨h, ⟨h2, ff, h3, h4⟩ | ⟨h2, ff, h3, h4⟩⟩ | ⟨h, h2 | h2 | h2 | ⟨d, h2, h3⟩ | ⟨ff, h3, h4⟩⟩ | ⟨h, ff, h3, h4⟩
  · omega
  · omega
  · omega
  · have := dy a h3; omega
  · omega
  · omega
  · omega
  · omega
  · omega
  · omega
  · omega
  · have := dy d h2; omega
  · omega
  · omega
theorem RR.expand (h : RR b kc M C) (hk : kc ≤ 10000) (hH : RH b M C VA PA LE AA nv np na) {ct : Nat → Nat} (hct : ∀ t, t < 24 → cI C 704 (b + 13 + 6 * t + 1) = (ct t : Int) ∧ ct t < 256) (hct2 : ∀ t, t < 24 → M.2 32 t = (ct t : Int)) {M1 : Md} {up : Int} (h1 : ∀ j, (j ≤ 35 ∨ j = 71) → M1.1 j = M.1 j) (h2 : ∀ k, k ≤ 40 → M1.2 k = M.2 k) (h39 : M1.1 39 = up) (hu : I32 up) (ht : t < 24) (hne : seen M nv na up t ≠ -1) :
   ∃ C' M' acc s', fX1_expand (b + 1) (t : Int) (some (VA (seen M nv na up t).toNat + 1)) up C = some ((), C') ∧ fX12_expand (t : Int) (seen M nv na up t) M1 = some ((), M') ∧ Fp (sX b (DyC b C)) C C' ∧ RLy b C' ∧ RmL b C C' ∧ RowV C' (b + 11) acc ∧ SeC b C' s' ∧ ExO M1 M' ∧ RowM M' 0 acc ∧ SeM M' s' ∧ ScO M M' ∧ Rm b C C' := by
  have hL := h.1.1
  have W := hL.W
  have hX := h.1.2.1
  have h5 : M.1 5 < 2147483648 := by have := h.2.2.2.1.1.2; omega
  have hMo := h.2.2.2.2.2.1
  have hP := env_p (ct := ct) hH hMo up
  have hM := env_m hH hMo (ct := ct) (fun t ht => ⟨hct2 t ht, (hct t ht).2⟩) h5 (fun j hj => h1 j (Or.inl hj)) h2 h39 hu
  have hC := env_c (ct := ct) hL hX hH hMo hct h5 hu
  obtain ⟨⟨acc, s'⟩, hrun⟩ := runX_top hP ht hne
  obtain ⟨C', c1, c2, c3, c4, c5, c6⟩ := X1_expand_ hL hX h.1.2.2.1 hL.2.2.1.2.2.2.2.2.2.2.2.2.2 hC hP ht hne hrun
  obtain ⟨M', m1, m2, m3, m4, m5⟩ := X12_expand_ hP hM (by rw [h1 71 (Or.inr rfl)]; exact h.2.2.1.2.2.2.1) ht hne hrun
  have q := sX_qt hX
  obtain ⟨g, n, t1⟩ := h.1.2.2.2.1
  obtain ⟨g2, n2, t2⟩ := h.1.2.2.2.2
  have dy : ∀ d, DyC b C d → b + 854 ≤ d := fun d ⟨ff, p, hf, hp, hd⟩ => (hX ff p d hf hp hd).2.1
  have z2 : ∀ {k a : Nat}, (b + 848 ≤ a ∧ a < b + 854) → ¬ sX b (DyC b C) 2 k a := fun hb z => by have := sX_lo2 dy z (by omega); omega
  refine ⟨C', M', acc, s', c1, m1, c4, ⟨c2.1, c2.2.1, c2.2.2.2.2.2.2.2.1, ⟨g, n, t1.fp W c4 (by unfold sX; omega) (by unfold sX; omega) ?_ (z2 (by omega))⟩, g2, n2, t2.fp W c4 (by unfold sX; omega) (by unfold sX; omega) ?_ (z2 (by omega))⟩, ⟨by have := c6.1; omega, by have := c6.2.1; omega, c4.1, c4.2.1⟩, c3, c2.2.2.2.2.2.1, m2, m3, m4, ⟨fun j hj => (m2.1 j (by omega)).trans (h1 j (Or.inl hj)), fun k hk => (m2.2 k (by omega)).trans (h2 k (by omega)), Or.inr ⟨?_, ?_⟩, Or.inr m5⟩, c6⟩
  · unfold sX; omega
  · unfold sX; omega
  · have := m4.2.2.1; omega
  · have := m4.2.2.1; omega
end EXPO
