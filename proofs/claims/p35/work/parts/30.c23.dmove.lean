/-! THE LAW'S DEEDS: move -/
section DMV
variable {b kc N np t s : Nat} {E : Rw} {G : Md} {C : Cd} {T : Nat → List Nat} {q : Nat → Nat}
theorem enc_mv (hs : s < 8) : lorI 1024 (w32 (10 + (16 * (s : Int)))) = encT [10 + 16 * s] := by
  have e := lor_mac (x := 1) (m := 10 + 16 * (s : Int)) (by decide) (by decide) (by omega) (by omega)
  rw [w32_of (by omega) (by omega), show (1024 : Int) = lshlI 1 10 from (lshl_of (x := 1) (k := 10) (by decide) (by decide) (by decide)).symm, e]
  unfold encT
  show 1 * 1024 + (10 + 16 * (s : Int)) = 1 * 1024 + ((10 + 16 * s : Nat) : Int)
  omega
theorem D_moveY (h : RR b kc G C) (hkc : kc ≤ 600) (hL : LW N np T E G) (ht : t < 8) (hs : s < 8) (hp : G.2 6 t ≠ -1) (hps : G.2 6 s = -1) (h32 : N < 32) (h3 : E 0 3 + 16 < 100000) (J : Int → Rw → Cd → (Nat → Nat) → Option (Int × S3)) : DeedO b kc E C (fW_law_1098 b (t : Int) 1 (s : Int) J 1 E C q) J := by
  have ho := h.1.1.o
  have i0 : inR 0 (wLen 0) := inW 4 wl_0 (by decide) (by decide) (by decide)
  have i1 : inR 1 (wLen 0) := inW 4 wl_0 (by decide) (by decide) (by decide)
  have i2 : inR 2 (wLen 0) := inW 4 wl_0 (by decide) (by decide) (by decide)
  have it : inR (t : Int) (wLen 1) := inWn 8 wl_1 ht (by decide)
  have is_ : inR (s : Int) (wLen 1) := inWn 8 wl_1 hs (by decide)
  have i6 : inR (7 * (t : Int)) (wLen 6) := inW 56 wl_6 (by omega) (by omega) (by decide)
  have x6 : ix (7 * (t : Int)) = 7 * t := ixn (by omega) (by omega)
  have xt : ix (t : Int) = t := ix_n (by omega)
  have xs : ix (s : Int) = s := ix_n (by omega)
  have e00 : E 0 0 = (N : Int) := hL.1.1.1
  have e01 : E 0 1 = (np : Int) := hL.2.2.2.2.1.1
  have e02 : E 0 2 = G.1 5 := hL.1.1.2.2.2.2.2.2
  have e1t : E 1 t = G.2 6 t + 1 := (hL.1.2.1 t ht).1
  have hts : s ≠ t := fun z => hp (by rw [← z]; exact hps)
  obtain ⟨C2, G2, E2, Es, a1, a2, e1, e2, e3, e4, e5, e6, e7⟩ := R_move h hkc hL ht hs hp hps h32 h3
  have s0 : ∀ i, i ≠ 3 → Es 0 i = E 0 i := a2.2.1
  have s1 : Es 1 = E 1 := a2.1 1 (by decide) (by decide)
  have dx := dox_4 (v := .inl (N : Int)) (a4 := 0) e1 trivial ho
  rw [show dxv (Sum.inl (N : Int)) = (N : Int) from rfl] at dx
  have ad := W_adds (N := N) (E := wPut (wPut (wPut (wPut (wPut Es 6 (7 * t + 4) 0) 6 (7 * t) 0) 1 s (G.2 6 t + 1)) 1 t ((np : Int) + 1)) 0 2 (G.1 5 + 1)) (p := (np : Int)) (tm := G.1 5 + 1) (x := encT [10 + 16 * s]) (by rw [wP2 _ _ (by omega), wP2 _ _ (by omega), wP2 _ _ (by omega), wP2 _ _ (by omega), wP2 _ _ (by omega), s0 0 (by decide)]; exact e00) h32
  refine ⟨_, C2, q, G2, E2, N + 1, np + 1, _, ?_, e2, e4, e5, ((IsR.rml e3).mono (by omega) (by omega)), e6, by omega⟩
  unfold fW_law_1098 fW_law_1133 fW_law_1141 fW_law_1228
  rw [cal1_of dx, bnd_eq, if_pos (by decide), if_neg (by decide), if_pos i0, show ix 0 = 0 from rfl, e00]; (try dsimp only); rw [bnd_eq, if_neg (fun z => z rfl)]; (try dsimp only); rw [bnd_eq, if_neg (by decide), cal1_of a1, if_pos i6, x6, bnd_eq, if_pos it, if_pos is_, xt, xs, wP2 _ _ (show 1 ≠ 6 ∨ t ≠ 7 * t by omega), wP2 _ _ (show 1 ≠ 6 ∨ t ≠ 7 * t + 4 by omega), s1, e1t, bnd_eq, if_pos i1, if_pos it, show ix 1 = 1 from rfl, wP2 _ _ (show 0 ≠ 1 ∨ 1 ≠ s by omega), wP2 _ _ (show 0 ≠ 6 ∨ 1 ≠ 7 * t by omega), wP2 _ _ (show 0 ≠ 6 ∨ 1 ≠ 7 * t + 4 by omega), s0 1 (by decide), e01, bnd_eq, if_pos i2, if_pos i2, show ix 2 = 2 from rfl, wP2 _ _ (show 0 ≠ 1 ∨ 2 ≠ t by omega), wP2 _ _ (show 0 ≠ 1 ∨ 2 ≠ s by omega), wP2 _ _ (show 0 ≠ 6 ∨ 2 ≠ 7 * t by omega), wP2 _ _ (show 0 ≠ 6 ∨ 2 ≠ 7 * t + 4 by omega), s0 2 (by decide), e02, bnd_eq, if_pos i1, if_pos i2, wP1, wP2 _ _ (show 0 ≠ 0 ∨ 1 ≠ 2 by omega), wP2 _ _ (show 0 ≠ 1 ∨ 1 ≠ t by omega), wP2 _ _ (show 0 ≠ 1 ∨ 1 ≠ s by omega), wP2 _ _ (show 0 ≠ 6 ∨ 1 ≠ 7 * t by omega), wP2 _ _ (show 0 ≠ 6 ∨ 1 ≠ 7 * t + 4 by omega), s0 1 (by decide), e01, enc_mv hs, cal1_of ad, if_pos i1, if_pos i1, wP2 _ _ (show 0 ≠ 0 ∨ 1 ≠ 0 by omega), wP2 _ _ (show 0 ≠ 3 ∨ 1 ≠ N by omega), wP2 _ _ (show 0 ≠ 2 ∨ 1 ≠ 2 * N + 1 by omega), wP2 _ _ (show 0 ≠ 2 ∨ 1 ≠ 2 * N by omega), wP2 _ _ (show 0 ≠ 0 ∨ 1 ≠ 2 by omega), wP2 _ _ (show 0 ≠ 1 ∨ 1 ≠ t by omega), wP2 _ _ (show 0 ≠ 1 ∨ 1 ≠ s by omega), wP2 _ _ (show 0 ≠ 6 ∨ 1 ≠ 7 * t by omega), wP2 _ _ (show 0 ≠ 6 ∨ 1 ≠ 7 * t + 4 by omega), s0 1 (by decide), e01, bnd_eq]
  have es : wPut (wPut (wPut (wPut (wPut (wPut (wPut (wPut (wPut (wPut Es 6 (7 * t + 4) 0) 6 (7 * t) 0) 1 s (G.2 6 t + 1)) 1 t ((np : Int) + 1)) 0 2 (G.1 5 + 1)) 2 (2 * N) (np : Int)) 2 (2 * N + 1) (G.1 5 + 1)) 3 N (encT [10 + 16 * s])) 0 0 ((N : Int) + 1)) 0 1 ((np : Int) + 1) = avE (mvE Es t s np (G.2 6 t + 1) (G.1 5 + 1)) N (np : Int) (G.1 5 + 1) [10 + 16 * s] := by
    unfold avE mvE
    rw [wPut_c _ _ _ (show 0 ≠ 0 ∨ 0 ≠ 1 by omega), wPut_c _ _ _ (show 3 ≠ 0 ∨ N ≠ 1 by omega), wPut_c _ _ _ (show 2 ≠ 0 ∨ 2 * N + 1 ≠ 1 by omega), wPut_c _ _ _ (show 2 ≠ 0 ∨ 2 * N ≠ 1 by omega), wPut_c _ _ _ (show 1 ≠ 0 ∨ t ≠ 2 by omega)]
  rw [es]
theorem D_moveN {t03 : Int} (h : RR b kc G C) (hkc : kc ≤ 600) (hL : LW N np T E G) (ht : t < 8) (hs : s < 8) (h3 : E 0 3 + 8 < 100000) (hn : (G.2 6 t = -1 ∧ t03 = 0) ∨ (G.2 6 t ≠ -1 ∧ t03 = 1 ∧ G.2 6 s ≠ -1)) (J : Int → Rw → Cd → (Nat → Nat) → Option (Int × S3)) : DeedO b kc E C (fW_law_1098 b (t : Int) t03 (s : Int) J 0 E C q) J := by
  have ho := h.1.1.o
  obtain ⟨C2, G2, e1, e2, e3, e4⟩ := R_moveNo h hkc hL ht hs (by
    rcases hn with z | z
    · exact Or.inl z.1
    · exact Or.inr ⟨z.1, z.2.2⟩)
  obtain ⟨E2, s1, s2, s3, s4⟩ := e4.rest e2 h3
  refine ⟨E, C2, q, G2, E2, N, np, T, ?_, e2, s1, s2, ((IsR.rml e3).mono (by omega) (by omega)), s3, by omega⟩
  unfold fW_law_1098 fW_law_1133 fW_law_1141 fW_law_1228
  rcases hn with ⟨z1, z2⟩ | ⟨z1, z2, z3⟩
  · rw [if_pos z1] at e1
    have dx := dox_4 (v := .inr 2) (a4 := 0) e1 (show 2 < 3 by decide) ho
    rw [show dxv (Sum.inr 2) = -11 from rfl] at dx
    rw [z2, cal1_of dx, bnd_eq, if_neg (by decide)]; (try dsimp only); rw [bnd_eq, if_neg (fun z => z rfl)]; (try dsimp only); rw [bnd_eq, if_pos (by decide)]
  · rw [if_neg z1] at e1
    have dx := dox_4 (v := .inr 1) (a4 := 0) e1 (show 1 < 3 by decide) ho
    rw [show dxv (Sum.inr 1) = -13 from rfl] at dx
    rw [z2, cal1_of dx, bnd_eq, if_pos (by decide), if_pos (by decide)]; (try dsimp only); rw [bnd_eq, if_neg (fun z => z rfl)]; (try dsimp only); rw [bnd_eq, if_pos (by decide)]
end DMV
