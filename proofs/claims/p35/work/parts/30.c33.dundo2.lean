/-! THE LAW'S DEEDS: undo, the deed itself -/
section DU2
variable {b kc N np t v : Nat} {E : Rw} {G : Md} {C C' : Cd} {T : Nat → List Nat} {q : Nat → Nat} {x : Int}
theorem un_no (hv : v < 1000) (ho : isO C b 14) (e : fX11_undo b (t : Int) (v : Int) C = some (.inr 1, C')) (J : Int → Rw → Cd → (Nat → Nat) → Option (Int × S3)) : fW_law_843 b (t : Int) (v : Int) 1 x 0 J E C q = J 1 E C' q := by
  have dx := dox_2 (v := .inr 1) (a4 := 0) e (show 1 < 3 by decide) ho
  rw [show dxv (Sum.inr 1) = -13 from rfl] at dx
  unfold fW_law_843 fW_law_860 fW_law_887 fW_law_895
  rw [bnd_eq, if_pos (by rw [w32_n (by omega)]; omega)]; (try dsimp only); rw [cal1_of dx, bnd_eq, if_pos (by decide), if_pos (by decide)]; (try dsimp only); rw [bnd_eq, if_neg (fun z => z rfl)]; (try dsimp only); rw [if_pos (by decide)]
/-- no version of the title's, or the first one -/
theorem un_no0 {y : Int} {r67 : Int} (hy : (r67 = y ∧ 0 ≤ y ∧ y < 1000) ∨ (r67 = -1 ∧ E 0 0 = y)) (ho : isO C b 14) (e : fX11_undo b (t : Int) y C = some (.inr 2, C')) (J : Int → Rw → Cd → (Nat → Nat) → Option (Int × S3)) : fW_law_843 b (t : Int) r67 0 x 0 J E C q = J 1 E C' q := by
  have i0 : inR 0 (wLen 0) := inW 4 wl_0 (by decide) (by decide) (by decide)
  have dx := dox_2 (v := .inr 2) (a4 := 0) e (show 2 < 3 by decide) ho
  rw [show dxv (Sum.inr 2) = -11 from rfl] at dx
  unfold fW_law_843 fW_law_860 fW_law_887 fW_law_895
  rcases hy with ⟨z1, z2, z3⟩ | ⟨z1, z2⟩
  · rw [z1, bnd_eq, if_pos (by rw [w32_of (by omega) (by omega)]; omega)]; (try dsimp only); rw [cal1_of dx, bnd_eq, if_neg (by decide)]; (try dsimp only); rw [bnd_eq, if_neg (fun z => z rfl)]; (try dsimp only); rw [if_pos (by decide)]
  · rw [z1, bnd_eq, if_neg (by decide), if_pos i0, show ix 0 = 0 from rfl, z2]; (try dsimp only); rw [cal1_of dx, bnd_eq, if_neg (by decide)]; (try dsimp only); rw [bnd_eq, if_neg (fun z => z rfl)]; (try dsimp only); rw [if_pos (by decide)]
theorem un_yes {R : List Nat} {p : Int} (hL : LW N np T E G) (ht : t < 8) (hv : v < 1000) (h32 : N < 32) (hp : p = G.2 6 t) (ho : isO C b 14) (e : fX11_undo b (t : Int) (v : Int) C = some (.inl (N : Int), C')) (J : Int → Rw → Cd → (Nat → Nat) → Option (Int × S3)) : fW_law_843 b (t : Int) (v : Int) 1 (encT R) 1 J E C q = J 1 (avE (wPut E 0 2 (G.1 5 + 1)) N p (G.1 5 + 1) R) C' q := by
  have i0 : inR 0 (wLen 0) := inW 4 wl_0 (by decide) (by decide) (by decide)
  have i2 : inR 2 (wLen 0) := inW 4 wl_0 (by decide) (by decide) (by decide)
  have it : inR (t : Int) (wLen 1) := inWn 8 wl_1 ht (by decide)
  have e00 : E 0 0 = (N : Int) := hL.1.1.1
  have e02 : E 0 2 = G.1 5 := hL.1.1.2.2.2.2.2.2
  have e1t : E 1 t - 1 = p := by rw [(hL.1.2.1 t ht).1, hp]; omega
  have dx := dox_2 (v := .inl (N : Int)) (a4 := 0) e trivial ho
  rw [show dxv (Sum.inl (N : Int)) = (N : Int) from rfl] at dx
  have ad : fW_adds p (G.1 5 + 1) (encT R) (wPut E 0 2 (G.1 5 + 1)) = some ((N : Int), avE (wPut E 0 2 (G.1 5 + 1)) N p (G.1 5 + 1) R) := W_adds (by rw [wP2 _ _ (by omega)]; exact e00) h32
  unfold fW_law_843 fW_law_860 fW_law_887 fW_law_895
  rw [bnd_eq, if_pos (by rw [w32_n (by omega)]; omega)]; (try dsimp only); rw [cal1_of dx, bnd_eq, if_pos (by decide), if_neg (by decide), if_pos i0, show ix 0 = 0 from rfl, e00]; (try dsimp only); rw [bnd_eq, if_neg (fun z => z rfl)]; (try dsimp only); rw [if_neg (by decide), if_pos i2, if_pos i2, show ix 2 = 2 from rfl, e02, bnd_eq, if_pos it, if_pos i2, ix_n (n := t) (by omega), wP1, wP2 _ _ (show 1 ≠ 0 ∨ t ≠ 2 by omega), e1t, cal1_of ad]
end DU2
