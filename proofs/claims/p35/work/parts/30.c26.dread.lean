/-! THE LAW'S DEEDS: read -/
section DRD
variable {b kc N np t w : Nat} {E : Rw} {G : Md} {C C' : Cd} {T : Nat → List Nat} {q : Nat → Nat}
theorem rd_tail {v : Int ⊕ Nat} {t03 : Int} (ht : t < 8) (hw : w < 2) (ho : isO C b 14) (e : fX11_read b (t : Int) (w : Int) C = some (v, C')) (hv : (v = .inr 2 ∧ t03 = 0) ∨ (v = .inl (E 6 (7 * t + 1)) ∧ t03 = 1)) (J : Int → Rw → Cd → (Nat → Nat) → Option (Int × S3)) : fW_law_1513 b (t : Int) t03 J (w : Int) E C q = J 1 E C' q := by
  have i6 : inR ((7 * (t : Int)) + 1) (wLen 6) := inW 56 wl_6 (by omega) (by omega) (by decide)
  have x6 : ix ((7 * (t : Int)) + 1) = 7 * t + 1 := ixn (by omega) (by omega)
  have dxo_ : dxo v := by
    rcases hv with ⟨z, _⟩ | ⟨z, _⟩
    · rw [z]; exact (show 2 < 3 by decide)
    · rw [z]; trivial
  have dx := dox_7 (a3 := (w : Int)) (a4 := 0) e dxo_ ho (by
    rcases (show w = 0 ∨ w = 1 by omega) with z | z
    · exact Or.inr ⟨z, by rw [z]; decide⟩
    · exact Or.inl ⟨z, by rw [z]; rfl⟩)
  have K : fW_law_1528 b (t : Int) t03 J (w : Int) E C q = J 1 E C' q := by
    unfold fW_law_1528 fW_law_1552 fW_law_1560
    rcases hv with ⟨z1, z2⟩ | ⟨z1, z2⟩
    · rw [z1, show dxv (Sum.inr 2) = -11 from rfl] at dx
      rw [z2, cal1_of dx, bnd_eq, if_pos (by decide)]; (try dsimp only); rw [bnd_eq, if_neg (fun z => z rfl)]
    · rw [z1, show dxv (Sum.inl (E 6 (7 * t + 1))) = E 6 (7 * t + 1) from rfl] at dx
      rw [z2, cal1_of dx, bnd_eq, if_neg (by decide), if_pos i6, x6]; (try dsimp only); rw [bnd_eq, if_neg (fun z => z rfl)]
  unfold fW_law_1513
  rw [bnd_eq]
  rcases (show w = 0 ∨ w = 1 by omega) with z | z
  · subst z
    rw [if_pos (by decide)]
    exact K
  · subst z
    rw [if_neg (by decide)]
    exact K
theorem D_read {t03 : Int} (h : RR b kc G C) (hk : kc ≤ 900) (hL : LW N np T E G) (ht : t < 8) (hw : w < 2) (h3 : E 0 3 + 16 < 100000) (hn : (G.2 6 t = -1 ∧ t03 = 0) ∨ (G.2 6 t ≠ -1 ∧ t03 = 1)) (J : Int → Rw → Cd → (Nat → Nat) → Option (Int × S3)) : DeedO b kc E C (fW_law_1456 b (t : Int) t03 J (w : Int) E C q) J := by
  have ho := h.1.1.o
  have i6 : inR (7 * (t : Int)) (wLen 6) := inW 56 wl_6 (by omega) (by omega) (by decide)
  have x6 : ix (7 * (t : Int)) = 7 * t := ixn (by omega) (by omega)
  rcases hn with ⟨z1, z2⟩ | ⟨z1, z2⟩
  · obtain ⟨C2, G2, e1, e2, e3, e4⟩ := R_readNo (w := w) h hk hL ht z1
    obtain ⟨E2, s1, s2, s3, s4⟩ := e4.rest e2 (by omega)
    refine ⟨E, C2, q, G2, E2, N, np, T, ?_, e2, s1, s2, ((IsR.rml e3).mono (by omega) (by omega)), s3, by omega⟩
    unfold fW_law_1456
    rw [bnd_eq, z2, if_pos (by decide)]
    exact rd_tail ht hw ho e1 (Or.inl ⟨rfl, rfl⟩) J
  · have gl := hL.1.2.2.2.1.1 t ht
    have r0 := gl.r0 hL.1.2.2.2.2 ht
    have OLD : ∀ Eo : Rw, G.2 27 t = 1 → (w = 1 ∨ ¬ stF G t) → DeedO b kc E C (fW_law_1513 b (t : Int) t03 J (w : Int) E C q) J := fun _ h27 hs => by
      obtain ⟨C2, G2, e1, e2, e3, e4⟩ := R_readOld h hk hL ht hw z1 h27 hs
      obtain ⟨E2, s1, s2, s3, s4⟩ := e4.rest e2 (by omega)
      exact ⟨E, C2, q, G2, E2, N, np, T, rd_tail ht hw ho e1 (Or.inr ⟨rfl, z2⟩) J, e2, s1, s2, ((IsR.rml e3).mono (by omega) (by omega)), s3, by omega⟩
    have NEW : (G.2 27 t = 0 ∨ (G.2 27 t = 1 ∧ w = 0 ∧ stF G t)) → DeedO b kc E C (fW_law_1494 (t : Int) (fun E C q => fW_law_1513 b (t : Int) t03 J (w : Int) E C q) E C q) J := fun hs => by
      obtain ⟨E', q', f1, f2, f3, C2, G2, e1, e2, e3, e4⟩ := R_readNew h hk hL ht hw z1 (by omega) q hs
      obtain ⟨E2, s1, s2, s3, s4⟩ := e4.rest e2 (by omega)
      refine ⟨E', C2, q', G2, E2, N, np, T, ?_, e2, s1, s2, (((IsR.b3 C).tr (IsR.rml e3)).mono (by omega) (by omega)), by omega, by omega⟩
      unfold fW_law_1494
      rw [cal3_of f1]
      exact rd_tail ht hw h.b3.1.1.o e1 (Or.inr ⟨rfl, z2⟩) J
    unfold fW_law_1456
    rw [bnd_eq, z2, if_neg (by decide), if_pos i6, x6, bnd_eq, ← z2]
    rcases gl.2.2 with z | ⟨y1, y2, _⟩
    · rw [if_pos (by rw [z.2.1]; rfl)]
      exact NEW (Or.inl z.1)
    · rw [if_neg (by rw [w32_of (by omega) (by omega)]; omega)]
      by_cases w1 : w = 1
      · subst w1
        rw [if_pos (by decide)]
        exact OLD E y1 (Or.inl rfl)
      · have w0 : w = 0 := by omega
        subst w0
        rw [if_neg (fun z => z rfl)]
        rcases W_isStale hL.1.2.1 hL.1.2.2.2.1 hL.1.2.2.2.2 ht with ⟨e, p⟩ | ⟨e, p⟩
        · rw [cal1_of e, if_neg (by decide)]
          exact NEW (Or.inr ⟨y1, rfl, p⟩)
        · rw [cal1_of e, if_pos (by decide)]
          exact OLD E y1 (Or.inr p)
end DRD
