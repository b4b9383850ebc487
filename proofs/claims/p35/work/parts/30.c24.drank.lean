/-! THE LAW'S DEEDS: approve, rank -/
section DRK
variable {b kc N np t : Nat} {E : Rw} {G : Md} {C : Cd} {T : Nat → List Nat} {q : Nat → Nat}
theorem wPut_same {k i : Nat} (E : Rw) {x : Int} (h : x = E k i) : wPut E k i x = E := by
  funext j z
  by_cases a : j = k ∧ z = i
  · obtain ⟨rfl, rfl⟩ := a
    rw [wP1, h]
  · rw [wP2 _ _ (by omega)]
theorem D_approve {x17 t03 r9 x23 : Int} (h : RR b kc G C) (hkc : kc < 512) (hL : LW N np T E G) (ht : t < 8) (h3 : E 0 3 + 8 < 100000) (hn : (G.2 6 t = -1 ∧ t03 = 0) ∨ (G.2 6 t ≠ -1 ∧ t03 = 1)) (J : Int → Rw → Cd → (Nat → Nat) → Option (Int × S3)) : DeedO b kc E C (fW_law_1273 b 15 x17 (t : Int) t03 r9 x23 J E C q) J := by
  have ho := h.1.1.o
  have i2 : inR 2 (wLen 0) := inW 4 wl_0 (by decide) (by decide) (by decide)
  have e02 : E 0 2 = G.1 5 := hL.1.1.2.2.2.2.2.2
  rcases hn with ⟨z1, z2⟩ | ⟨z1, z2⟩
  · obtain ⟨C2, G2, e1, e2, e3, e4⟩ := R_approveNo h hkc hL ht z1
    obtain ⟨E2, s1, s2, s3, s4⟩ := e4.rest e2 h3
    have dx := dox_6 (v := .inr 2) (a3 := 0) (a4 := 0) e1 (show 2 < 3 by decide) ho
    rw [show dxv (Sum.inr 2) = -11 from rfl] at dx
    refine ⟨E, C2, q, G2, E2, N, np, T, ?_, e2, s1, s2, ((IsR.rml e3).mono (by omega) (by omega)), s3, by omega⟩
    unfold fW_law_1273 fW_law_1305 fW_law_1313 fW_law_1329
    rw [if_neg (fun z => z rfl), cal1_of dx, bnd_eq, z2, if_pos (by decide)]; (try dsimp only); rw [bnd_eq, if_neg (fun z => z rfl)]; (try dsimp only); rw [if_pos i2, bnd_eq, if_pos (by decide)]; (try dsimp only); rw [if_pos i2, show ix 2 = 2 from rfl, bnd_eq, wPut_same E (show E 0 2 + 0 = E 0 2 by omega)]
  · obtain ⟨C2, G2, e1, e2, e3, e4⟩ := R_approve h hkc hL ht z1
    have e3' : wPut E 0 2 (G.1 5 + 1) 0 3 = E 0 3 := wP2 _ _ (by omega)
    obtain ⟨E2, s1, s2, s3, s4⟩ := e4.rest e2 (by rw [e3']; exact h3)
    rw [e3'] at s3 s4
    have dx := dox_6 (v := .inl (G.1 5 + 1)) (a3 := 0) (a4 := 0) e1 trivial ho
    rw [show dxv (Sum.inl (G.1 5 + 1)) = G.1 5 + 1 from rfl] at dx
    refine ⟨wPut E 0 2 (G.1 5 + 1), C2, q, G2, E2, N, np, T, ?_, e2, s1, s2, ((IsR.rml e3).mono (by omega) (by omega)), s3, by omega⟩
    unfold fW_law_1273 fW_law_1305 fW_law_1313 fW_law_1329
    rw [if_neg (fun z => z rfl), cal1_of dx, bnd_eq, z2, if_neg (by decide), if_pos i2, show ix 2 = 2 from rfl, e02]; (try dsimp only); rw [bnd_eq, if_neg (fun z => z rfl)]; (try dsimp only); rw [if_pos i2, bnd_eq, if_neg (by decide)]; (try dsimp only); rw [if_pos i2, e02, bnd_eq]
theorem D_rank {k x17 : Nat} {t03 r9 x23 : Int} (h : RR b kc G C) (hL : LW N np T E G) (ht : t < 8) (h3 : E 0 3 + 8 < 100000) (hk : k = 22 ∨ k = 23) (hx : x17 < 2147483648) (J : Int → Rw → Cd → (Nat → Nat) → Option (Int × S3)) : DeedO b kc E C (fW_law_1273 b (k : Int) (x17 : Int) (t : Int) t03 r9 x23 J E C q) J := by
  have ho := h.1.1.o
  have ed : remI (divI (x17 : Int) 8) 100 = ((x17 / 8 % 100 : Nat) : Int) := by
    rw [show (8 : Int) = ((8 : Nat) : Int) from rfl, divI_N (by omega) (by decide) (by decide), show (100 : Int) = ((100 : Nat) : Int) from rfl, remI_N (by omega) (by omega) (by omega)]
  obtain ⟨C2, G2, e1, e2, e3, e4⟩ := R_rank (y := x17 / 8 % 100) h hL ht (by omega)
  generalize x17 / 8 % 100 = y at *
  have e3' : wPut E 6 (7 * t + 6) (y : Int) 0 3 = E 0 3 := wP2 _ _ (by omega)
  obtain ⟨E2, s1, s2, s3, s4⟩ := e4.rest e2 (by rw [e3']; exact h3)
  rw [e3'] at s3 s4
  have i6 : inR ((7 * (t : Int)) + 6) (wLen 6) := inW 56 wl_6 (by omega) (by omega) (by decide)
  have x6 : ix ((7 * (t : Int)) + 6) = 7 * t + 6 := ixn (by omega) (by omega)
  refine ⟨wPut E 6 (7 * t + 6) (y : Int), C2, q, G2, E2, N, np, T, ?_, e2, s1, s2, ((IsR.rml e3).mono (by omega) (by omega)), s3, by omega⟩
  unfold fW_law_1273 fW_law_1609
  have c1 : ¬ w32 (k : Int) = w32 15 := by rw [w32_n (by omega), show w32 15 = 15 from rfl]; omega
  have c2 : w32 19 ≤ w32 (k : Int) := by rw [w32_n (by omega), show w32 19 = 19 from rfl]; omega
  have c3 : w32 22 ≤ w32 (k : Int) := by rw [w32_n (by omega), show w32 22 = 22 from rfl]; omega
  have c4 : ¬ w32 24 ≤ w32 (k : Int) := by rw [w32_n (by omega), show w32 24 = 24 from rfl]; omega
  rw [if_pos c1, if_pos c2, if_pos c3, if_neg c4, ed, bnd_eq, if_pos ho, calt_of e1, if_pos i6, x6, bnd_eq, if_neg (fun z => z rfl)]; (try dsimp only); rw [if_pos i6, bnd_eq]
end DRK
