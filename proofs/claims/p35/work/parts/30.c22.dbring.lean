/-! THE LAW'S DEEDS: bringIn -/
section DBR
variable {b kc N np t : Nat} {E : Rw} {G : Md} {C : Cd} {T : Nat → List Nat} {q : Nat → Nat}
theorem D_bringY {Tn : List Nat} {x : Nat} (h : RR b kc G C) (hkc : kc ≤ 600) (hL : LW N np T E G) (ht : t < 8) (ok : okT Tn) (hl : 1 ≤ Tn.length ∧ Tn.length ≤ 5) (h32 : N < 32) (h3 : E 0 3 + 8 < 100000) (hp : G.2 6 t ≠ -1) (hx : 1 ≤ x ∧ (x : Int) ≤ G.1 5) (J : Int → Rw → Cd → (Nat → Nat) → Option (Int × S3)) : DeedO b kc E C (fW_law_984 b (t : Int) 1 (encT Tn) J (x : Int) 1 E C q) J := by
  obtain ⟨C1, G1, d1, d2, d3, d4, d5⟩ := W_drafts h ok (by omega)
  have hL1 := hL.sc d3
  have six := d3.2 6 (by decide) (by decide)
  have g5 := d3.1 5 (by decide) (by decide)
  have ho := d2.1.1.o
  have i0 : inR 0 (wLen 0) := inW 4 wl_0 (by decide) (by decide) (by decide)
  have it : inR (t : Int) (wLen 1) := inWn 8 wl_1 ht (by decide)
  have e00 : E 0 0 = (N : Int) := hL.1.1.1
  have e1t : E 1 t - 1 = G1.2 6 t := by rw [(hL.1.2.1 t ht).1, six]; omega
  obtain ⟨C2, G2, E2, e1, e2, e3, e4, e5, e6, e7⟩ := R_bringIn d2 hkc hL1 ht (by rw [six]; exact hp) (by rw [g5]; exact hx) d4 ok hl h32 h3
  have dx := dox_3 (v := .inl (N : Int)) (a4 := 0) e1 trivial ho
  rw [show dxv (Sum.inl (N : Int)) = (N : Int) from rfl] at dx
  have ad : fW_adds (G1.2 6 t) (x : Int) (encT Tn) E = some ((N : Int), avE E N (G1.2 6 t) (x : Int) Tn) := W_adds e00 h32
  refine ⟨avE E N (G1.2 6 t) (x : Int) Tn, C2, q, G2, E2, N + 1, np, _, ?_, e2, e4, e5, (((IsR.sz d5).tr (IsR.rml e3)).mono (by omega) (by omega)), e6, by omega⟩
  unfold fW_law_984 fW_law_1036 fW_law_1035 fW_law_1028 fW_law_1063
  rw [cal1_of d1, bnd_eq, bnd_eq, if_neg (by decide), cal1_of dx, bnd_eq, if_pos (by decide), if_neg (by decide), if_pos i0, show ix 0 = 0 from rfl, e00]; (try dsimp only); rw [if_neg (fun z => z rfl), bnd_eq, if_neg (by decide), if_pos it, ix_n (n := t) (by omega), e1t, cal1_of ad]
theorem D_bringN {Tn : List Nat} {x t03 : Int} (h : RR b kc G C) (hkc : kc ≤ 600) (hL : LW N np T E G) (ht : t < 8) (ok : okT Tn) (hl : 1 ≤ Tn.length ∧ Tn.length ≤ 5) (h3 : E 0 3 + 8 < 100000) (hx : 0 ≤ x ∧ x < 1000000) (hn : (G.2 6 t = -1 ∧ t03 = 0) ∨ (G.2 6 t ≠ -1 ∧ t03 = 1 ∧ ¬ (1 ≤ x ∧ x ≤ G.1 5))) (J : Int → Rw → Cd → (Nat → Nat) → Option (Int × S3)) : DeedO b kc E C (fW_law_984 b (t : Int) t03 (encT Tn) J x 0 E C q) J := by
  obtain ⟨C1, G1, d1, d2, d3, d4, d5⟩ := W_drafts h ok (by omega)
  have hL1 := hL.sc d3
  have six := d3.2 6 (by decide) (by decide)
  have g5 := d3.1 5 (by decide) (by decide)
  have ho := d2.1.1.o
  obtain ⟨C2, G2, e1, e2, e3, e4⟩ := R_bringNo (x := x) d2 hkc hL1 ht hx (by
    rw [six, g5]
    rcases hn with z | z
    · exact Or.inl z.1
    · exact Or.inr ⟨z.1, z.2.2⟩)
  rw [six] at e1
  obtain ⟨E2, s1, s2, s3, s4⟩ := e4.rest e2 h3
  refine ⟨E, C2, q, G2, E2, N, np, T, ?_, e2, s1, s2, (((IsR.sz d5).tr (IsR.rml e3)).mono (by omega) (by omega)), s3, by omega⟩
  unfold fW_law_984 fW_law_1036 fW_law_1035 fW_law_1028 fW_law_1063
  rcases hn with ⟨z1, z2⟩ | ⟨z1, z2, z3⟩
  · rw [if_pos z1] at e1
    have dx := dox_3 (v := .inr 2) (a4 := 0) e1 (show 2 < 3 by decide) ho
    rw [show dxv (Sum.inr 2) = -11 from rfl] at dx
    rw [z2, cal1_of d1, bnd_eq, bnd_eq, if_neg (by decide), cal1_of dx, bnd_eq, if_neg (by decide)]; (try dsimp only); rw [if_neg (fun z => z rfl), bnd_eq, if_pos (by decide)]
  · rw [if_neg z1] at e1
    have dx := dox_3 (v := .inr 0) (a4 := 0) e1 (show 0 < 3 by decide) ho
    rw [show dxv (Sum.inr 0) = -12 from rfl] at dx
    rw [z2, cal1_of d1, bnd_eq, bnd_eq, if_neg (by decide), cal1_of dx, bnd_eq, if_pos (by decide), if_pos (by decide)]; (try dsimp only); rw [if_neg (fun z => z rfl), bnd_eq, if_pos (by decide)]
/-- bringIn whole, where the turn's number is 11 and a version more may be -/
theorem D_bring {Tn : List Nat} {x17 : Nat} {t03 r9 x23 : Int} (h : RR b kc G C) (hkc : kc ≤ 600) (hL : LW N np T E G) (ht : t < 8) (ok : okT Tn) (hl : 1 ≤ Tn.length ∧ Tn.length ≤ 5) (h32 : N < 32) (h3 : E 0 3 + 8 < 100000) (hx : x17 < 2147483648) (hn : (G.2 6 t = -1 ∧ t03 = 0) ∨ (G.2 6 t ≠ -1 ∧ t03 = 1)) (J : Int → Rw → Cd → (Nat → Nat) → Option (Int × S3)) : DeedO b kc E C (fW_law_933 b 11 (x17 : Int) (t : Int) t03 r9 (encT Tn) x23 J E C q) J := by
  obtain ⟨v1, v2, v3, v4, v5, v6, v7⟩ := hL.1.1
  obtain ⟨k, hk⟩ : ∃ k : Nat, G.1 5 = (k : Int) := ⟨(G.1 5).toNat, by omega⟩
  have i0 : inR 0 (wLen 0) := inW 4 wl_0 (by decide) (by decide) (by decide)
  have i2 : inR 2 (wLen 0) := inW 4 wl_0 (by decide) (by decide) (by decide)
  have ed : remI (divI (x17 : Int) 9) ((k : Int) + 2) = ((x17 / 9 % (k + 2) : Nat) : Int) := by
    rw [show (9 : Int) = ((9 : Nat) : Int) from rfl, divI_N (by omega) (by decide) (by decide), show (k : Int) + 2 = ((k + 2 : Nat) : Int) by omega, remI_N (by omega) (by omega) (by omega)]
  have lt : x17 / 9 % (k + 2) < k + 2 := Nat.mod_lt _ (by omega)
  generalize x17 / 9 % (k + 2) = x at *
  have R : ∀ X, fW_law_933 b 11 (x17 : Int) (t : Int) t03 r9 (encT Tn) x23 J E C q = X → DeedO b kc E C X J → DeedO b kc E C (fW_law_933 b 11 (x17 : Int) (t : Int) t03 r9 (encT Tn) x23 J E C q) J := fun X e d => by rw [e]; exact d
  by_cases c : G.2 6 t ≠ -1 ∧ 1 ≤ x ∧ x ≤ k
  · have t1 : t03 = 1 := by rcases hn with z | z; exact absurd z.1 c.1; exact z.2
    refine R _ ?_ (D_bringY (q := q) (x := x) h hkc hL ht ok hl h32 h3 c.1 (by rw [hk]; exact ⟨c.2.1, by omega⟩) J)
    unfold fW_law_933
    rw [bnd_eq, if_neg (fun z => z rfl), if_pos i0, show ix 0 = 0 from rfl, v1, if_neg (by rw [show w32 32 = 32 from rfl, w32_n (by omega)]; omega), if_pos i2, show ix 2 = 2 from rfl, v7, hk, if_neg (by rw [w32_of (by omega) (by omega)]; omega), ed, bnd_eq, bnd_eq, bnd_eq, t1, if_neg (by decide), if_neg (by rw [w32_n (by omega)]; omega), if_pos i2, if_neg (by rw [w32_n (by omega), w32_n (by omega)]; omega)]
  · refine R _ ?_ (D_bringN (q := q) (x := (x : Int)) (t03 := t03) h hkc hL ht ok hl h3 ⟨by omega, by omega⟩ (by
      rcases hn with z | z
      · exact Or.inl z
      · exact Or.inr ⟨z.1, z.2, fun y => c ⟨z.1, by omega, by omega⟩⟩) J)
    unfold fW_law_933 fW_law_983
    rw [bnd_eq, if_neg (fun z => z rfl), if_pos i0, show ix 0 = 0 from rfl, v1, if_neg (by rw [show w32 32 = 32 from rfl, w32_n (by omega)]; omega), if_pos i2, show ix 2 = 2 from rfl, v7, hk, if_neg (by rw [w32_of (by omega) (by omega)]; omega), ed, bnd_eq, bnd_eq, bnd_eq]
    rcases hn with ⟨z1, z2⟩ | ⟨z1, z2⟩
    · rw [z2, if_pos (by decide)]
    · rw [z2, if_neg (by decide)]
      by_cases d : x = 0
      · rw [if_pos (by rw [w32_n (by omega)]; omega)]
      · rw [if_neg (by rw [w32_n (by omega)]; omega), if_pos i2, if_pos (by rw [w32_n (by omega), w32_n (by omega)]; omega)]
end DBR
