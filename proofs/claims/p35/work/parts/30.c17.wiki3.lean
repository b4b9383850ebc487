/-! isWiki GIVES 1: translations, titles that are wanted -/
section WI3
variable {b kc N np t : Nat} {E : Rw} {G : Md} {C : Cd} {T : Nat → List Nat} {q : Nat → Nat} {y4 : Nat}
/-- whether a title's translation has a page, as the law asks -/
theorem trl_ok {l : Nat} (hL : LW N np T E G) (ht : t < 8) (hl : l < 2) : (w32 (E 9 (t + 8 * l)) ≤ 0 ∧ trl G l t = -1) ∨ (¬ w32 (E 9 (t + 8 * l)) ≤ 0 ∧ inR (E 9 (t + 8 * l) - 1) (wLen 1) ∧ w32 (E 1 (ix (E 9 (t + 8 * l) - 1))) ≤ 0 ∧ trl G l t = -1) ∨ (¬ w32 (E 9 (t + 8 * l)) ≤ 0 ∧ inR (E 9 (t + 8 * l) - 1) (wLen 1) ∧ ¬ w32 (E 1 (ix (E 9 (t + 8 * l) - 1))) ≤ 0 ∧ E 9 (t + 8 * l) - 1 = trl G l t ∧ trl G l t ≠ -1) := by
  obtain ⟨e9, r9, _⟩ := hL.2.2.1 l t hl ht
  unfold trl
  by_cases c : G.2 17 (24 * l + t) = -1
  · rw [if_pos c]
    exact Or.inl ⟨by rw [e9, c]; decide, rfl⟩
  · obtain ⟨s, hs⟩ : ∃ s : Nat, G.2 17 (24 * l + t) = (s : Int) := ⟨(G.2 17 (24 * l + t)).toNat, by omega⟩
    have s8 : s < 8 := by omega
    have w1 := hL.1.2.1 s s8
    rw [if_neg c, hs, Int.toNat_natCast]
    have p : ¬ w32 (E 9 (t + 8 * l)) ≤ 0 := by rw [e9, hs, w32_of (by omega) (by omega)]; omega
    have e : E 9 (t + 8 * l) - 1 = (s : Int) := by omega
    rw [e, ix_n (n := s) (by omega), w1.1]
    by_cases d : G.2 6 s = -1
    · rw [if_pos d]
      exact Or.inr (Or.inl ⟨p, inWn 8 wl_1 s8 (by decide), by rw [d]; decide, rfl⟩)
    · rw [if_neg d]
      exact Or.inr (Or.inr ⟨p, inWn 8 wl_1 s8 (by decide), by rw [w32_of (by omega) (by omega)]; omega, rfl, by omega⟩)
theorem outD_sm {G' : Md} (s : SmG G G') (l : Nat) (t : Nat) : outD G' N l t = outD G N l t := by
  unfold outD
  rw [s.2 17 (by decide) (by decide), s.2 18 (by decide) (by decide), s.2 6 (by decide) (by decide), prAt_same s.vs N t]
theorem IS.sm {G' : Md} {C' : Cd} (hI : IS b kc N np T y4 E C q G) (h : RR b kc G' C') (s : SmG G G') : IS b kc N np T y4 E C' q G' := ⟨h, hI.2.1.sc s, hI.2.2.1, hI.2.2.2.1, hI.2.2.2.2.1, hI.2.2.2.2.2⟩
/-- what is asked of one language -/
theorem wiki_570 {r15 : Int} {l : Nat} (h : RR b kc G C) (hL : LW N np T E G) (ht : t < 8) (hlt : l < 2) (hr : r15 = prAt G N t) : ∃ C2 G2, RR b kc G2 C2 ∧ SmG G G2 ∧ Sz C C2 ∧ ∀ L : Int → Int → Rw → Cd → (Nat → Nat) → Option (Int × S3), fW_isWiki_570 b (t : Int) r15 L (l : Int) (E 9 (t + 8 * l)) (inL G l t) E C q = L 1 ((l : Int) + 1) E C2 q := by
  obtain ⟨C1, G1, a1, a2, a3, a4⟩ := Q_inLanguage h hL ht hlt
  have hL1 := hL.sc a3
  obtain ⟨C2, G2, b1, b2, b3, b4⟩ := Q_isOutdated a2 hL1 ht hlt
  rw [outD_sm a3] at b1
  refine ⟨C2, G2, b2, a3.tr b3, ⟨b4.1.trans a4.1, b4.2.1.trans a4.2.1, b4.2.2.trans a4.2.2⟩, fun L => ?_⟩
  obtain ⟨e9, r9, f9⟩ := hL.2.2.1 l t hlt ht
  obtain ⟨_, _, h3⟩ := h.2.2.2.2.1 t (by omega)
  have a18 := (h3 l hlt).2
  have pr := prAt_lt (N := N) hL.1.2.1 ht
  have n32 := hL.1.1.2.1
  unfold fW_isWiki_570 fW_isWiki_636 fW_isWiki_635 fW_isWiki_628 fW_isWiki_627
  rw [if_pos h.1.1.o, calt_of a1, bnd_eq, bnd_eq, if_neg (fun z => z rfl), if_pos a2.1.1.o, calt_of b1, bnd_eq, bnd_eq]
  by_cases c : G.2 17 (24 * l + t) = -1
  · have o : outD G N l t = 0 := by unfold outD; rw [if_pos c]
    rw [if_pos (by rw [e9, c]; decide), o]; (try dsimp only); rw [if_neg (fun z => z rfl)]
  · obtain ⟨_, g1, g2⟩ := a18 c
    have e18 := f9 c
    rw [if_neg (by rw [e9, w32_of (by omega) (by omega)]; omega), if_pos (inW 32 wl_9 (by omega) (by omega) (by decide)), ixn (n := 16 + t + 8 * l) (by omega) (by omega), e18, hr]
    by_cases d : prAt G N t = G.2 18 (24 * l + t)
    · have o : outD G N l t = 0 := by
        unfold outD
        rw [if_neg c, if_neg (fun z => by
          have : prAt G N t = -1 := by unfold prAt; rw [if_pos z]
          omega), if_pos d]
      rw [if_pos (by rw [d]), o]; (try dsimp only); rw [if_neg (fun z => z rfl)]
    · have o : outD G N l t = 1 := by
        unfold outD
        rw [if_neg c]
        split
        · rfl
        · rfl
      rw [if_neg (by rw [w32_of (by omega) (by omega), w32_of (by omega) (by omega)]; omega), o]; (try dsimp only); rw [if_neg (fun z => z rfl)]
theorem wiki_547 {l : Nat} (hL : LW N np T E G) (ht : t < 8) (hm1 : trl G l t = -1) (J : Int → Rw → Cd → (Nat → Nat) → Option (Int × S3)) : fW_isWiki_547 (t : Int) (E 9 t) J E C q = J (inL G l t) E C q := by
  have t0 := trl_ok (l := 0) hL ht (by decide)
  rw [show t + 8 * 0 = t from rfl] at t0
  unfold fW_isWiki_547 fW_isWiki_568 inL
  rw [bnd_eq, if_pos hm1]
  rcases t0 with ⟨p1, p2⟩ | ⟨p1, p2, p3, p4⟩ | ⟨p1, p2, p3, p4, p5⟩
  · rw [if_pos p1, if_pos (Or.inr p2)]
  · rw [if_neg p1, if_pos p2, if_pos p3, if_pos (Or.inr p4)]
  · have l1 : ¬ (l = 0 ∨ trl G 0 t = -1) := by
      rintro (z | z)
      · exact p5 (by rw [← z]; exact hm1)
      · exact p5 z
    rw [if_neg p1, if_pos p2, if_neg p3, if_neg l1, p4]
theorem wiki_495 {L32 : Int → Int → Int → Int → Rw → Cd → (Nat → Nat) → Option (Int × S3)} {v14 x13 r15 : Int} {l : Nat} (h : RR b kc G C) (hL : LW N np T E G) (ht : t < 8) (hlt : l < 2) (hr : r15 = prAt G N t) : ∃ C2 G2, RR b kc G2 C2 ∧ SmG G G2 ∧ Sz C C2 ∧ ∀ L : Int → Int → Rw → Cd → (Nat → Nat) → Option (Int × S3), fW_isWiki_495 b L32 (t : Int) r15 x13 v14 L 1 (l : Int) E C q = L 1 ((l : Int) + 1) E C2 q := by
  obtain ⟨C2, G2, a1, a2, a3, a4⟩ := wiki_570 (q := q) h hL ht hlt hr
  refine ⟨C2, G2, a1, a2, a3, fun L => ?_⟩
  have J := a4 L
  have i1 : inR ((t : Int) + (8 * (l : Int))) (wLen 9) := inW 32 wl_9 (by omega) (by omega) (by decide)
  have i2 : inR (t : Int) (wLen 9) := inWn 32 wl_9 (by omega) (by decide)
  have x1 : ix ((t : Int) + (8 * (l : Int))) = t + 8 * l := ixn (by omega) (by omega)
  unfold fW_isWiki_495
  rw [bnd_eq, if_neg (by rw [show w32 2 = 2 from rfl, w32_n (by omega)]; omega), if_neg (by decide), if_pos i1, x1, bnd_eq, if_pos i2, ix_n (n := t) (by omega), bnd_eq, bnd_eq, bnd_eq]
  rcases trl_ok hL ht hlt with ⟨p1, p2⟩ | ⟨p1, p2, p3, p4⟩ | ⟨p1, p2, p3, p4, p5⟩
  · rw [if_pos p1]
    exact (wiki_547 hL ht p2 _).trans J
  · rw [if_neg p1, if_pos p2, if_pos p3]
    exact (wiki_547 hL ht p4 _).trans J
  · unfold inL at J
    rw [if_neg p5] at J
    rw [if_neg p1, if_pos p2, if_neg p3, p4]
    exact J
def L5 (b : Nat) (L32 : Int → Int → Int → Int → Rw → Cd → (Nat → Nat) → Option (Int × S3)) (t r15 x13 v14 : Int) : Int → Int → Rw → Cd → (Nat → Nat) → Option (Int × S3) := lpn (fun (_ : Int) (_ : Int) (_ : Rw) (_ : Cd) (_ : (Nat → Nat)) => (none : Option (Int × S3))) (fun L495 (v12_495 : Int) (v20_495 : Int) (E_495 : Rw) (C_495 : Cd) (q_495 : (Nat → Nat)) => fW_isWiki_495 b L32 t r15 x13 v14 L495 v12_495 v20_495 E_495 C_495 q_495) FU
/-- the translations -/
theorem wiki_D1 {L32 : Int → Int → Int → Int → Rw → Cd → (Nat → Nat) → Option (Int × S3)} {v14 x13 r15 : Int} (hI : IS b kc N np T y4 E C q G) (ht : t < 8) (hr : r15 = prAt G N t) : ∃ C' G', L5 b L32 (t : Int) r15 x13 v14 1 0 E C q = L32 1 x13 v14 ((t : Int) + 1) E C' q ∧ IS b kc N np T y4 E C' q G' ∧ SmG G G' ∧ IsR b C C' 0 0 := by
  unfold L5
  obtain ⟨C1, G1, a1, a2, a3, a4⟩ := wiki_495 (q := q) (L32 := L32) (v14 := v14) (x13 := x13) (l := 0) hI.1 hI.2.1 ht (by decide) hr
  have hI1 := hI.sm a1 a2
  have hr1 : r15 = prAt G1 N t := by rw [prAt_same a2.vs]; exact hr
  obtain ⟨C2, G2, b1, b2, b3, b4⟩ := wiki_495 (q := q) (L32 := L32) (v14 := v14) (x13 := x13) (l := 1) hI1.1 hI1.2.1 ht (by decide) hr1
  have hI2 := hI1.sm b1 b2
  refine ⟨C2, G2, ?_, hI2, a2.tr b2, ((IsR.sz a3).tr (IsR.sz b3))⟩
  have e : FU = (FU - 3) + 1 + 1 + 1 := by unfold FU; rfl
  rw [e]
  generalize FU - 3 = n
  rw [lpn]
  rw [show (0 : Int) = ((0 : Nat) : Int) from rfl, a4, lpn, show ((0 : Nat) : Int) + 1 = ((1 : Nat) : Int) from rfl, b4, lpn]
  unfold fW_isWiki_495 fW_isWiki_644
  rw [bnd_eq, if_pos (by decide)]
end WI3
