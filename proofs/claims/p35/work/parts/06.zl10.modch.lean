/-! A MODULE CHANGED: what waits -/
section MCH
variable {b kc : Nat} {M M' : Md} {C C' : Cd}
theorem RR.modG (h : RR b kc M C) {j : Nat} (hj : j < 4) (m22 : M'.1 22 = M.1 22 + 1) (m25 : ∀ k, M'.2 25 k = if k = j then M.1 22 + 1 else M.2 25 k) (m2 : ∀ k, ((23 ≤ k ∧ k ≤ 35 ∧ k ≠ 25) ∨ k = 6) → M'.2 k = M.2 k)
   (fi : ∀ k u, u < 24 → 701 ≤ k → k ≤ 707 → k ≠ 702 → cI C' k (b + 13 + 6 * u + 1) = cI C k (b + 13 + 6 * u + 1)) (fr : ∀ u r, u < 24 → RowV C (b + 13 + 6 * u + 2) r → RowV C' (b + 13 + 6 * u + 2) r) (g702 : ∀ u, u < 24 → ∀ us : Nat, cI C 707 (b + 13 + 6 * u + 1) = (us : Int) → cI C' 702 (b + 13 + 6 * u + 1) = if us.testBit j = true then 1 else cI C 702 (b + 13 + 6 * u + 1)) :
   RGs b M' C' ∧ ∀ nv, VSame M M' → RK M nv → RK M' nv := by
  have b4 := h.2.2.2.1.2.2.1
  refine ⟨fun u hu => ?_, fun nv vs ⟨k1, k2, k3, k4, k5⟩ => ⟨fun t ht => ?_, fun k hk => ?_, fun k hk => ?_, fun k hk => ?_, fun t ht => ?_⟩⟩
  · obtain ⟨VA, PA, LE, AA, nv, np, na, hH, k1, k2, k3, k4, k5⟩ := h.2.2.2.2.2.2.1
    obtain ⟨r, lk, cu, rd, cd, us, h1, h2, h3, ⟨h4a, h4b, h4c, h4d, h4e⟩, h5, h6, h7⟩ := h.2.2.2.2.2.2.2 u hu
    have q702 := g702 u hu us h4e.1
    have hr5 := k5 u hu
    refine ⟨r, lk, cu, rd, cd, us, ?_, ?_, fr u r hu h3, ⟨⟨(fi 703 u hu (by decide) (by decide) (by decide)).trans h4a.1, h4a.2⟩, ⟨(fi 704 u hu (by decide) (by decide) (by decide)).trans h4b.1, h4b.2⟩, ⟨(fi 705 u hu (by decide) (by decide) (by decide)).trans h4c.1, h4c.2⟩, ⟨(fi 706 u hu (by decide) (by decide) (by decide)).trans h4d.1, h4d.2⟩, ⟨(fi 707 u hu (by decide) (by decide) (by decide)).trans h4e.1, h4e.2⟩⟩, ?_, fun z => ?_, fun z => ?_⟩
    · rw [fi 701 u hu (by decide) (by decide) (by decide), m2 27 (by decide)]; exact h1
    · rw [q702]
      by_cases z : us.testBit j = true
      · rw [if_pos z]; exact Or.inr rfl
      · rw [if_neg z]; exact h2
    · rw [m2 32 (by decide)]; exact h5
    · rw [m2 27 (by decide)] at z
      obtain ⟨y1, y2, y6, y7⟩ := h6 z
      rw [m2 29 (by decide), m2 30 (by decide), m2 31 (by decide), m2 33 (by decide), m2 34 (by decide), m2 35 (by decide), m2 6 (by decide)]
      refine ⟨y1, y2, ?_, y7⟩
      have iff1 : OldP M' u rd cd us ↔ OldP M u rd cd us ∨ us.testBit j = true := by
        unfold OldP
        rw [m2 28 (by decide), m2 23 (by decide), m2 24 (by decide)]
        constructor
        · rintro (z | z | z | ⟨c, z1, z2, z3⟩)
          · exact Or.inl (Or.inl z)
          · exact Or.inl (Or.inr (Or.inl z))
          · exact Or.inl (Or.inr (Or.inr (Or.inl z)))
          · rw [m25] at z3
            by_cases e : c = j
            · subst e; exact Or.inr z2
            · rw [if_neg e] at z3
              exact Or.inl (Or.inr (Or.inr (Or.inr ⟨c, z1, z2, z3⟩)))
        · rintro ((z | z | z | ⟨c, z1, z2, z3⟩) | z)
          · exact Or.inl z
          · exact Or.inr (Or.inl z)
          · exact Or.inr (Or.inr (Or.inl z))
          · refine Or.inr (Or.inr (Or.inr ⟨c, z1, z2, ?_⟩))
            rw [m25]
            by_cases e : c = j
            · rw [if_pos e]; omega
            · rw [if_neg e]; exact z3
          · refine Or.inr (Or.inr (Or.inr ⟨j, hj, z, ?_⟩))
            rw [m25, if_pos rfl]; omega
      rw [q702, iff1]
      by_cases z2 : us.testBit j = true
      · rw [if_pos z2]; exact ⟨fun _ => Or.inr z2, fun _ => rfl⟩
      · rw [if_neg z2, y6]; exact ⟨Or.inl, fun y => y.elim id (fun y => absurd y z2)⟩
    · rw [m2 27 (by decide)] at z
      exact h7 z
  · rw [m2 26 (by decide), prAt_same vs]; exact k1 t ht
  · rw [m2 23 (by decide), m22]; have := k2 k hk; omega
  · rw [m2 24 (by decide), m22]; have := k3 k hk; omega
  · rw [m25, m22]
    have := k4 k hk
    by_cases e : k = j
    · rw [if_pos e]; omega
    · rw [if_neg e]; omega
  · rw [m2 28 (by decide), m22]; have := k5 t ht; omega
end MCH
