/-! THE LAW'S DEEDS: create -/
section DEE
variable {b kc N np t : Nat} {E : Rw} {G : Md} {C : Cd} {T : Nat → List Nat} {q : Nat → Nat}
/-- what a deed must leave: the law goes on with 1, and its wiki is the ghost's once titles are settled -/
def DeedO (b kc : Nat) (E : Rw) (C : Cd) (R : Option (Int × S3)) (J : Int → Rw → Cd → (Nat → Nat) → Option (Int × S3)) : Prop := ∃ E1 C1 q1 G1 E2 N1 np1 T1, R = J 1 E1 C1 q1 ∧ RR b (kc + 1) G1 C1 ∧ fW_settles E1 = some ((), E2) ∧ LW N1 np1 T1 E2 G1 ∧ IsR b C C1 600 11000 ∧ E 0 3 ≤ E2 0 3 ∧ E2 0 3 ≤ E 0 3 + 100
theorem wPut_c {k i k' i' : Nat} (E : Rw) (x y : Int) (h : k ≠ k' ∨ i ≠ i') : wPut (wPut E k i x) k' i' y = wPut (wPut E k' i' y) k i x := by
  funext j z
  by_cases a : j = k ∧ z = i
  · obtain ⟨rfl, rfl⟩ := a
    rw [wP1, wP2 _ _ (by omega), wP1]
  · rw [wP2 (wPut E k' i' y) x (by omega)]
    by_cases c : j = k' ∧ z = i'
    · obtain ⟨rfl, rfl⟩ := c
      rw [wP1, wP1]
    · rw [wP2 _ _ (by omega), wP2 _ _ (by omega), wP2 _ _ (by omega)]
theorem D_create {Tn : List Nat} (h : RR b kc G C) (hkc : kc ≤ 600) (hL : LW N np T E G) (ht : t < 8) (ok : okT Tn) (hl : 1 ≤ Tn.length ∧ Tn.length ≤ 5) (h32 : N < 32) (h3 : E 0 3 + 8 < 100000) (J : Int → Rw → Cd → (Nat → Nat) → Option (Int × S3)) : DeedO b kc E C (fW_law_260 b (t : Int) (encT Tn) J (if G.2 6 t = -1 then 1 else 0) E C q) J := by
  obtain ⟨C1, G1, d1, d2, d3, d4, d5⟩ := W_drafts h ok (by omega)
  have hL1 := hL.sc d3
  have six := d3.2 6 (by decide) (by decide)
  have ho := d2.1.1.o
  have i0 : inR 0 (wLen 0) := inW 4 wl_0 (by decide) (by decide) (by decide)
  have i1 : inR 1 (wLen 0) := inW 4 wl_0 (by decide) (by decide) (by decide)
  have i2 : inR 2 (wLen 0) := inW 4 wl_0 (by decide) (by decide) (by decide)
  have it : inR (t : Int) (wLen 1) := inWn 8 wl_1 ht (by decide)
  have e00 : E 0 0 = (N : Int) := hL.1.1.1
  have e01 : E 0 1 = (np : Int) := hL.2.2.2.2.1.1
  have e02 : E 0 2 = G1.1 5 := hL1.1.1.2.2.2.2.2.2
  by_cases c : G.2 6 t = -1
  · obtain ⟨C2, G2, E2, e1, e2, e3, e4, e5, e6, e7⟩ := R_create d2 hkc hL1 ht (by rw [six]; exact c) d4 ok hl h32 h3
    have dx := dox_0 (v := .inl (N : Int)) (a3 := 0) (a4 := 0) e1 trivial ho
    rw [show dxv (Sum.inl (N : Int)) = (N : Int) from rfl] at dx
    refine ⟨crE E t N np (G1.1 5 + 1) Tn, C2, q, G2, E2, N + 1, np + 1, _, ?_, e2, e4, e5, (((IsR.sz d5).tr (IsR.rml e3)).mono (by omega) (by omega)), e6, by omega⟩
    have ad := W_adds (N := N) (E := wPut (wPut E 1 t ((np : Int) + 1)) 0 2 (G1.1 5 + 1)) (p := (np : Int)) (tm := G1.1 5 + 1) (x := encT Tn) (by rw [wP2 _ _ (by omega), wP2 _ _ (by omega)]; exact e00) h32
    unfold fW_law_260 fW_law_301 fW_law_300 fW_law_293 fW_law_349
    rw [if_pos c, cal1_of d1, bnd_eq, bnd_eq, if_neg (by decide), cal1_of dx, bnd_eq, if_neg (by decide), if_pos i0, show ix 0 = 0 from rfl, e00]; (try dsimp only); rw [if_neg (fun z => z rfl), bnd_eq, if_neg (by decide), if_pos i1, if_pos it, ix_n (n := t) (by omega), show ix 1 = 1 from rfl, e01, bnd_eq, if_pos i2, if_pos i2, show ix 2 = 2 from rfl, wP2 _ _ (by omega), e02, bnd_eq, if_pos i1, if_pos i2, wP2 _ _ (by omega), wP2 _ _ (by omega), e01, wP1, cal1_of ad, if_pos i1, if_pos i1, wP2 _ _ (show 0 ≠ 0 ∨ 1 ≠ 0 by omega), wP2 _ _ (show 0 ≠ 3 ∨ 1 ≠ N by omega), wP2 _ _ (show 0 ≠ 2 ∨ 1 ≠ 2 * N + 1 by omega), wP2 _ _ (show 0 ≠ 2 ∨ 1 ≠ 2 * N by omega), wP2 _ _ (show 0 ≠ 0 ∨ 1 ≠ 2 by omega), wP2 _ _ (show 0 ≠ 1 ∨ 1 ≠ t by omega), e01, bnd_eq]
    have es : wPut (wPut (wPut (wPut (wPut (wPut (wPut E 1 t ((np : Int) + 1)) 0 2 (G1.1 5 + 1)) 2 (2 * N) (np : Int)) 2 (2 * N + 1) (G1.1 5 + 1)) 3 N (encT Tn)) 0 0 ((N : Int) + 1)) 0 1 ((np : Int) + 1) = crE E t N np (G1.1 5 + 1) Tn := by
      unfold crE
      rw [wPut_c _ _ _ (show 0 ≠ 0 ∨ 0 ≠ 1 by omega), wPut_c _ _ _ (show 3 ≠ 0 ∨ N ≠ 1 by omega), wPut_c _ _ _ (show 2 ≠ 0 ∨ 2 * N + 1 ≠ 1 by omega), wPut_c _ _ _ (show 2 ≠ 0 ∨ 2 * N ≠ 1 by omega), wPut_c _ _ _ (show 1 ≠ 0 ∨ t ≠ 2 by omega)]
    rw [es]
  · obtain ⟨C2, G2, e1, e2, e3, e4⟩ := R_createNo d2 hkc hL1 ht (by rw [six]; exact c)
    have dx := dox_0 (v := .inr 1) (a3 := 0) (a4 := 0) e1 (show 1 < 3 by decide) ho
    rw [show dxv (Sum.inr 1) = -13 from rfl] at dx
    obtain ⟨E2, s1, s2, s3, s4⟩ := e4.rest e2 h3
    refine ⟨E, C2, q, G2, E2, N, np, T, ?_, e2, s1, s2, (((IsR.sz d5).tr (IsR.rml e3)).mono (by omega) (by omega)), s3, by omega⟩
    unfold fW_law_260 fW_law_301 fW_law_300 fW_law_293 fW_law_349
    rw [if_neg c, cal1_of d1, bnd_eq, bnd_eq, if_neg (by decide), cal1_of dx, bnd_eq, if_pos (by decide)]; (try dsimp only); rw [if_neg (fun z => z rfl), bnd_eq, if_pos (by decide)]
end DEE
