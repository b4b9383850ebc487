/-! THE LAW'S END -/
section END_
variable {b kc N np : Nat} {E : Rw} {G : Md} {C : Cd} {T : Nat → List Nat} {q : Nat → Nat}
theorem T_end (h : RR b kc G C) (hL : LW N np T E G) (hk : kc ≤ 900) : ∃ E' C' q', fW_law_1850 b 1 E C q = some (1, (E', C', q')) ∧ IsR b C C' 8057 160440 := by
  obtain ⟨E3, C3, q3, G3, w1, w2, w3, w4, w5, w6⟩ := W_isWiki (q := q) (a10 := 13) h hL hk ⟨by decide, by decide⟩
  refine ⟨E3, C3, q3, ?_, w5⟩
  unfold fW_law_1850 fW_law_1885 fW_law_1884
  rw [bnd_eq, bnd_eq, if_neg (by decide), cal3_of w1, if_neg (by decide)]
  rfl
end END_
