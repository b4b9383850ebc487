/-! THE LAW'S DEEDS: work -/
section DWK
variable {b kc N np t : Nat} {E : Rw} {G : Md} {C : Cd} {T : Nat → List Nat} {q : Nat → Nat}
theorem IsR.bn : ∀ (m : Nat) (C : Cd), IsR b C (cBn m C) (3 * m) (24 * m)
  | 0, C => ⟨Nat.le_refl _, Nat.le_refl _, Nat.le_refl _, Nat.le_refl _⟩
  | m + 1, C => ((IsR.b3 C).tr (IsR.bn m (cB3 C))).mono (by omega) (by omega)
theorem D_work {k x17 : Nat} {tt t03 r9 x23 : Int} (h : RR b kc G C) (hkc : kc ≤ 800) (hL : LW N np T E G) (h3 : E 0 3 + 40 < 100000) (hk : k = 16 ∨ k = 17 ∨ k = 18) (hx : x17 < 2147483648) (J : Int → Rw → Cd → (Nat → Nat) → Option (Int × S3)) : DeedO b kc E C (fW_law_1273 b (k : Int) (x17 : Int) tt t03 r9 x23 J E C q) J := by
  have ed : 1 + remI (x17 : Int) 4 = ((1 + x17 % 4 : Nat) : Int) := by
    rw [show (4 : Int) = ((4 : Nat) : Int) from rfl, remI_N (by omega) (by omega) (by omega)]; omega
  have hn : 1 ≤ 1 + x17 % 4 ∧ 1 + x17 % 4 ≤ 4 := by have := Nat.mod_lt x17 (show 0 < 4 by decide); omega
  generalize 1 + x17 % 4 = n at *
  obtain ⟨C2, G2, E', q', m, nx, a1, a2, a3, a4, a5, a6, a7, a8⟩ := R_work (J := J) hn h hkc hL (by omega) q
  obtain ⟨E2, s1, s2, s3, s4⟩ := a6.rest a3 (by omega)
  have c1 : ¬ w32 (k : Int) = w32 15 := by rw [w32_n (by omega), show w32 15 = 15 from rfl]; omega
  have c2 : ¬ w32 19 ≤ w32 (k : Int) := by rw [w32_n (by omega), show w32 19 = 19 from rfl]; omega
  refine ⟨E', C2, q', G2, E2, N, np, T, ?_, a3, s1, s2, (((IsR.bn m C).tr (IsR.rml a5)).mono (by omega) (by omega)), by omega, by omega⟩
  unfold fW_law_1273
  rw [if_pos c1, if_neg c2, ed, bnd_eq, cal1_of a1, bnd_eq]
  exact a2
end DWK
