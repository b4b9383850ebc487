/-! THE LAW'S DEEDS: translate -/
section DTR
variable {b kc N np t s : Nat} {E : Rw} {G : Md} {C : Cd} {T : Nat → List Nat} {q : Nat → Nat}
theorem D_trans {k x17 : Nat} {t03 : Int} (h : RR b kc G C) (hL : LW N np T E G) (ht : t < 8) (hs : s < 8) (h3 : E 0 3 + 8 < 100000) (hk : k = 24 ∨ k = 25) (hx : x17 < 2147483648) (hn : (G.2 6 t = -1 ∧ t03 = 0) ∨ (G.2 6 t ≠ -1 ∧ t03 = 1)) (J : Int → Rw → Cd → (Nat → Nat) → Option (Int × S3)) : DeedO b kc E C (fW_law_1273 b (k : Int) (x17 : Int) (t : Int) t03 (prAt G N t) (s : Int) J E C q) J := by
  have ho := h.1.1.o
  have ed : remI (divI (x17 : Int) 64) 2 = ((x17 / 64 % 2 : Nat) : Int) := by
    rw [show (64 : Int) = ((64 : Nat) : Int) from rfl, divI_N (by omega) (by decide) (by decide), show (2 : Int) = ((2 : Nat) : Int) from rfl, remI_N (by omega) (by omega) (by omega)]
  have ll : x17 / 64 % 2 < 2 := Nat.mod_lt _ (by decide)
  generalize x17 / 64 % 2 = l at *
  have i1 : inR ((t : Int) + (8 * (l : Int))) (wLen 9) := inW 32 wl_9 (by omega) (by omega) (by decide)
  have i2 : inR ((16 + (t : Int)) + (8 * (l : Int))) (wLen 9) := inW 32 wl_9 (by omega) (by omega) (by decide)
  have x1 : ix ((t : Int) + (8 * (l : Int))) = t + 8 * l := ixn (by omega) (by omega)
  have x2 : ix ((16 + (t : Int)) + (8 * (l : Int))) = 16 + t + 8 * l := ixn (by omega) (by omega)
  have c1 : ¬ w32 (k : Int) = w32 15 := by rw [w32_n (by omega), show w32 15 = 15 from rfl]; omega
  have c2 : w32 19 ≤ w32 (k : Int) := by rw [w32_n (by omega), show w32 19 = 19 from rfl]; omega
  have c3 : w32 22 ≤ w32 (k : Int) := by rw [w32_n (by omega), show w32 22 = 22 from rfl]; omega
  have c4 : w32 24 ≤ w32 (k : Int) := by rw [w32_n (by omega), show w32 24 = 24 from rfl]; omega
  have cs : s ≠ t → ¬ w32 (s : Int) = w32 (t : Int) := fun z => by rw [w32_n (by omega), w32_n (by omega)]; omega
  by_cases c : G.2 6 t ≠ -1 ∧ t ≠ s
  · have t1 : t03 = 1 := by rcases hn with z | z; exact absurd z.1 c.1; exact z.2
    obtain ⟨C2, G2, e1, e2, e3, e4⟩ := R_translate h hL ht ll hs c.2 c.1
    have dx := dox_8 (v := .inl (E 9 (t + 8 * l) - 1)) e1 trivial ho
    rw [show dxv (Sum.inl (E 9 (t + 8 * l) - 1)) = E 9 (t + 8 * l) - 1 from rfl] at dx
    have e3' : wPut (wPut E 9 (t + 8 * l) ((s : Int) + 1)) 9 (16 + t + 8 * l) (prAt G N t + 1) 0 3 = E 0 3 := by rw [wP2 _ _ (by omega), wP2 _ _ (by omega)]
    obtain ⟨E2, s1, s2, s3, s4⟩ := e4.rest e2 (by rw [e3']; exact h3)
    rw [e3'] at s3 s4
    refine ⟨wPut (wPut E 9 (t + 8 * l) ((s : Int) + 1)) 9 (16 + t + 8 * l) (prAt G N t + 1), C2, q, G2, E2, N, np, T, ?_, e2, s1, s2, ((IsR.rml e3).mono (by omega) (by omega)), s3, by omega⟩
    unfold fW_law_1273 fW_law_1652 fW_law_1653 fW_law_1704 fW_law_1712 fW_law_1747 fW_law_1787
    rw [if_pos c1, if_pos c2, if_pos c3, if_pos c4, ed, bnd_eq, bnd_eq, bnd_eq, t1, if_neg (by decide), if_neg (cs (fun z => c.2 z.symm))]; (try dsimp only); rw [cal1_of dx, bnd_eq, if_pos (by decide), if_pos (cs (fun z => c.2 z.symm)), if_pos i1, x1]; (try dsimp only); rw [bnd_eq, if_neg (fun z => z rfl)]; (try dsimp only); rw [bnd_eq, if_neg (by decide)]; (try dsimp only); rw [if_pos i1, bnd_eq, bnd_eq, if_neg (by decide)]; (try dsimp only); rw [if_pos i2, x2, bnd_eq]
  · obtain ⟨C2, G2, e1, e2, e3, e4⟩ := R_transNo h hL ht ll hs (by
      by_cases d : G.2 6 t = -1
      · exact Or.inl d
      · exact Or.inr ⟨d, Decidable.byContradiction (fun z => c ⟨d, z⟩)⟩)
    obtain ⟨E2, s1, s2, s3, s4⟩ := e4.rest e2 h3
    refine ⟨E, C2, q, G2, E2, N, np, T, ?_, e2, s1, s2, ((IsR.rml e3).mono (by omega) (by omega)), s3, by omega⟩
    have w1 : wPut E 9 (t + 8 * l) (E 9 (t + 8 * l)) = E := wPut_same E rfl
    have w2 : wPut E 9 (16 + t + 8 * l) (E 9 (16 + t + 8 * l)) = E := wPut_same E rfl
    unfold fW_law_1273 fW_law_1652 fW_law_1653 fW_law_1704 fW_law_1712 fW_law_1747 fW_law_1787
    rcases hn with ⟨z1, z2⟩ | ⟨z1, z2⟩
    · rw [if_pos z1] at e1
      have dx := dox_8 (v := .inr 2) e1 (show 2 < 3 by decide) ho
      rw [show dxv (Sum.inr 2) = -11 from rfl] at dx
      rw [if_pos c1, if_pos c2, if_pos c3, if_pos c4, ed, bnd_eq, bnd_eq, bnd_eq, z2, if_pos (by decide)]; (try dsimp only); rw [cal1_of dx, bnd_eq, if_neg (by decide)]; (try dsimp only); rw [bnd_eq, if_neg (fun z => z rfl)]; (try dsimp only); rw [bnd_eq, if_pos (by decide), if_pos i1, x1]; (try dsimp only); rw [if_pos i1, bnd_eq, bnd_eq, w1, if_pos (by decide), if_pos i2, x2]; (try dsimp only); rw [if_pos i2, bnd_eq, w2]
    · have ts : t = s := Decidable.byContradiction (fun z => c ⟨z1, z⟩)
      subst ts
      rw [if_neg z1] at e1
      have dx := dox_8 (v := .inr 0) e1 (show 0 < 3 by decide) ho
      rw [show dxv (Sum.inr 0) = -12 from rfl] at dx
      rw [if_pos c1, if_pos c2, if_pos c3, if_pos c4, ed, bnd_eq, bnd_eq, bnd_eq, z2, if_neg (by decide), if_pos rfl]; (try dsimp only); rw [cal1_of dx, bnd_eq, if_pos (by decide), if_neg (fun z => z rfl)]; (try dsimp only); rw [bnd_eq, if_neg (fun z => z rfl)]; (try dsimp only); rw [bnd_eq, if_pos (by decide), if_pos i1, x1]; (try dsimp only); rw [if_pos i1, bnd_eq, bnd_eq, w1, if_pos (by decide), if_pos i2, x2]; (try dsimp only); rw [if_pos i2, bnd_eq, w2]
end DTR
