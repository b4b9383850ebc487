/-! THE LAW'S DEEDS: move, from the turn's number on -/
section DM2
variable {b kc N np t s : Nat} {E : Rw} {G : Md} {C : Cd} {T : Nat → List Nat} {q : Nat → Nat}
theorem D_move {k : Nat} {x17 t03 r9 : Int} (h : RR b kc G C) (hkc : kc ≤ 600) (hL : LW N np T E G) (ht : t < 8) (hs : s < 8) (h32 : N < 32) (h3 : E 0 3 + 16 < 100000) (hk : k < 14) (hn : (G.2 6 t = -1 ∧ t03 = 0) ∨ (G.2 6 t ≠ -1 ∧ t03 = 1)) (J : Int → Rw → Cd → (Nat → Nat) → Option (Int × S3)) : DeedO b kc E C (fW_law_1066 b (k : Int) x17 (t : Int) t03 r9 (s : Int) J E C q) J := by
  have i0 : inR 0 (wLen 0) := inW 4 wl_0 (by decide) (by decide) (by decide)
  have is_ : inR (s : Int) (wLen 1) := inWn 8 wl_1 hs (by decide)
  have xs : ix (s : Int) = s := ix_n (by omega)
  have e00 : E 0 0 = (N : Int) := hL.1.1.1
  have w1 := hL.1.2.1 s hs
  have c1 : ¬ w32 14 ≤ w32 (k : Int) := by rw [w32_n (by omega), show w32 14 = 14 from rfl]; omega
  have c2 : ¬ w32 32 ≤ w32 (N : Int) := by rw [w32_n (by omega), show w32 32 = 32 from rfl]; omega
  unfold fW_law_1066 fW_law_1097
  rw [bnd_eq, if_neg c1, if_pos i0, show ix 0 = 0 from rfl, e00, if_neg c2, bnd_eq, bnd_eq]
  rcases hn with ⟨z1, z2⟩ | ⟨z1, z2⟩
  · rw [z2, if_pos (by decide)]
    exact D_moveN h hkc hL ht hs (by omega) (Or.inl ⟨z1, rfl⟩) J
  · rw [z2, if_neg (by decide), if_pos is_, xs]
    by_cases c : G.2 6 s = -1
    · rw [if_neg (by rw [w1.1, c]; exact fun z => z rfl)]
      exact D_moveY h hkc hL ht hs z1 c h32 h3 J
    · rw [if_pos (by rw [w32_of (by omega) (by omega)]; omega)]
      exact D_moveN h hkc hL ht hs (by omega) (Or.inr ⟨z1, rfl, c⟩) J
end DM2
