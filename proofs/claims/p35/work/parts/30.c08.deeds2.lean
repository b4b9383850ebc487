/-! DEEDS IN BOTH WIKIS: approve, translate, read -/
section DEE2
variable {b kc N np t : Nat} {E E' : Rw} {G G' : Md} {C C' : Cd} {T : Nat → List Nat}
theorem LW.scw (hL : LW N np T E G) (s1 : ∀ j, (j = 2 ∨ j = 5 ∨ j = 7 ∨ j = 8) → G'.1 j = G.1 j) (s2 : ∀ k, (k = 3 ∨ k = 4 ∨ k = 6 ∨ (9 ≤ k ∧ k ≤ 12) ∨ k = 17 ∨ k = 18 ∨ (23 ≤ k ∧ k ≤ 35)) → G'.2 k = G.2 k) : LW N np T E G' := by
  obtain ⟨⟨h1, h2, h3, h4, h5⟩, hD, hTr, ⟨o1, o2, o3⟩, ⟨n1, n2⟩, n8, n10⟩ := hL
  refine ⟨⟨?_, ?_, fun v hv => ?_, ⟨fun u hu => ?_, fun u a c => ?_⟩, ?_⟩, ?_, ?_, ⟨(s1 2 (by omega)).trans o1, ?_, ?_⟩, ⟨n1, (s1 7 (by omega)).trans n2⟩, (s1 8 (by omega)).trans n8, n10⟩
  · unfold WV at h1 ⊢
    rw [s2 12 (by omega), s2 11 (by omega), s1 5 (by omega)]
    exact h1
  · unfold WP at h2 ⊢
    rw [s2 6 (by omega)]
    exact h2
  · obtain ⟨a1, a2, a3, a4, a5⟩ := h3 v hv
    refine ⟨a1, a2, a3, ?_, fun k hk => ?_⟩
    · rw [← a4]; unfold tl; rw [s2 10 (by omega)]
    · rw [← a5 k hk]; unfold tx; rw [s2 9 (by omega)]
  · have := h4.1 u hu
    unfold WG at this ⊢
    rw [s2 4 (by omega), s2 27 (by omega), s2 32 (by omega), s2 30 (by omega), s2 31 (by omega), s2 33 (by omega), s2 34 (by omega), s2 35 (by omega)]
    exact this
  · rw [s2 27 (by omega), s2 32 (by omega)]
    exact h4.2 u a c
  · unfold WK at h5 ⊢
    rw [s2 26 (by omega), s2 27 (by omega), s2 28 (by omega), s2 23 (by omega), s2 24 (by omega)]
    exact h5
  · unfold LD at hD ⊢
    rw [s2 27 (by omega), s2 30 (by omega), s2 29 (by omega)]
    exact hD
  · unfold LT at hTr ⊢
    rw [s2 17 (by omega), s2 18 (by omega)]
    exact hTr
  · rw [s2 3 (by omega)]; exact o2
  · rw [s2 6 (by omega)]; exact o3
theorem presP (hL : LW N np T E G) {G1 : Md} (s1 : ∀ j, (j = 7 ∨ j = 8 ∨ j = 13) → G1.1 j = G.1 j) (s2 : ∀ k, ((9 ≤ k ∧ k ≤ 12) ∨ (14 ≤ k ∧ k ≤ 16) ∨ k = 6) → G1.2 k = G.2 k) (ht : t < 8) : fX12_presentAt (t : Int) G1 = some (prAt G N t, G1) := by
  have sx := hL.six (show t < 24 by omega)
  have e := X12_presentAt_ (M := G1) (nv := N) (t := t) (hL.vi.same ⟨s1, s2⟩) (by omega) (by rw [s2 6 (by omega)]; exact ⟨by omega, by omega⟩)
  rw [prAt_same (M := G) (M' := G1) ⟨s1, s2⟩] at e
  exact e
/-- an index refused -/
theorem cd2_2 {e : Nat} (he : e < 3) (h : cd2 e = 1) : e = 2 := by
  rcases (show e = 0 ∨ e = 1 ∨ e = 2 by omega) with y | y | y <;> subst y
  · exact absurd h (by decide)
  · exact absurd h (by decide)
  · rfl
theorem R_approve (h : RR b kc G C) (hkc : kc < 512) (hL : LW N np T E G) (ht : t < 8) (hp : G.2 6 t ≠ -1) : ∃ C' G', fX11_approve b (t : Int) C = some (.inl (G.1 5 + 1), C') ∧ RR b (kc + 1) G' C' ∧ RmL b C C' ∧ LW N np T (wPut E 0 2 (G.1 5 + 1)) G' := by
  have i24 : ∀ {k}, mLen k = 24 → inR (t : Int) (mLen k) := fun h => inM (n := 24) h (by omega) (by decide)
  obtain ⟨VA, PA, LE, AA, np', na, hH, hK⟩ := h.nN hL.2.2.2.2.2.1
  have n13 := hH.2.2.1.1
  have kb := h.2.2.2.1.2.1
  have na5 : na < 512 := by omega
  have clk := h.2.2.2.1.1
  have iA : ∀ {k}, mLen k = 2000 → inR ((na : Nat) : Int) (mLen k) := fun h => inM (n := 2000) h (by omega) (by decide)
  -- the states on the way
  have e5 : (mSet G 36 0).1 5 = G.1 5 := mS2 G _ (by decide)
  have f1 : ∀ j, j ≠ 36 → j ≠ 5 → (mSet (mSet G 36 0) 5 (G.1 5 + 1)).1 j = G.1 j := fun j a c => (mS2 _ _ c).trans (mS2 G _ a)
  have f5 : (mSet (mSet G 36 0) 5 (G.1 5 + 1)).1 5 = G.1 5 + 1 := mS1 _ _ _
  have f36 : (mSet (mSet G 36 0) 5 (G.1 5 + 1)).1 36 = 0 := (mS2 (mSet G 36 0) _ (by decide)).trans (mS1 G 36 0)
  have f2 : (mSet (mSet G 36 0) 5 (G.1 5 + 1)).2 = G.2 := rfl
  have hL4 : LW N np T (wPut E 0 2 (G.1 5 + 1)) (mSet (mSet G 36 0) 5 (G.1 5 + 1)) := (hL.sc (SmG.s36 G 0)).clock (by rw [e5]; omega)
  have hY : ∀ M4, M4 = mSet (mSet G 36 0) 5 (G.1 5 + 1) → fX12_approve (t : Int) G = some (G.1 5 + 1, mSet (mPut (mPut (mPut M4 14 na (G.2 6 t)) 15 na (G.1 5 + 1)) 16 na (prAt G N t)) 13 ((na : Int) + 1)) := by
    intro M4 e4
    rw [← e4] at f1 f5 f36 f2
    unfold fX12_approve
    rw [cal_of (hasP hL ht hp), bnd_eq, if_pos (by decide), cal_of (mayP hL (by omega)), if_pos (by decide)]
    dsimp only
    rw [bnd_eq, mS1, if_pos (by decide), bnd_eq, e5, ← e4, if_pos (i24 rfl), f1 13 (by decide) (by decide), n13, if_pos (iA rfl), bnd_eq, ix_n (n := t) (by omega), ix_n (n := na) (by omega), f2]
    have z13 : (mPut M4 14 na (G.2 6 t)).1 13 = (na : Int) := (f1 13 (by decide) (by decide)).trans n13
    have z5 : (mPut M4 14 na (G.2 6 t)).1 5 = G.1 5 + 1 := f5
    rw [z13, if_pos (iA rfl), bnd_eq, ix_n (n := na) (by omega), z5]
    have pr : fX12_presentAt (t : Int) (mPut (mPut M4 14 na (G.2 6 t)) 15 na (G.1 5 + 1)) = some (prAt G N t, mPut (mPut M4 14 na (G.2 6 t)) 15 na (G.1 5 + 1)) := by
      have sx := hL.six (show t < 24 by omega)
      have vi : VI (mPut (mPut M4 14 na (G.2 6 t)) 15 na (G.1 5 + 1)) N := by
        have v := hL.vi
        unfold VI at v ⊢
        have r : ∀ k, k ≠ 14 → k ≠ 15 → (mPut (mPut M4 14 na (G.2 6 t)) 15 na (G.1 5 + 1)).2 k = G.2 k := fun k a c => by rw [mPut_ne _ _ _ c, mPut_ne _ _ _ a, f2]
        rw [r 10 (by decide) (by decide), r 11 (by decide) (by decide), r 12 (by decide) (by decide), show (mPut (mPut M4 14 na (G.2 6 t)) 15 na (G.1 5 + 1)).1 8 = G.1 8 from f1 8 (by decide) (by decide)]
        exact v
      have six' : (mPut (mPut M4 14 na (G.2 6 t)) 15 na (G.1 5 + 1)).2 6 = G.2 6 := by rw [mPut_ne _ _ _ (by decide), mPut_ne _ _ _ (by decide), f2]
      have e := X12_presentAt_ (nv := N) (t := t) vi (by omega) (by rw [six']; exact ⟨by omega, by omega⟩)
      have pe : prAt (mPut (mPut M4 14 na (G.2 6 t)) 15 na (G.1 5 + 1)) N t = prAt G N t := by
        have on : ∀ p, onp (mPut (mPut M4 14 na (G.2 6 t)) 15 na (G.1 5 + 1)) p = onp G p := fun p => by
          funext v; unfold onp; rw [mPut_ne _ _ _ (by decide), mPut_ne _ _ _ (by decide), f2]
        have ah : ahd (mPut (mPut M4 14 na (G.2 6 t)) 15 na (G.1 5 + 1)) = ahd G := by
          funext v o; unfold ahd; rw [mPut_ne _ _ _ (by decide), mPut_ne _ _ _ (by decide), f2]
        have pp : ∀ p n, prs (mPut (mPut M4 14 na (G.2 6 t)) 15 na (G.1 5 + 1)) p n = prs G p n := fun p n => by
          induction n with
          | zero => rfl
          | succ n ih => rw [prs_succ, prs_succ, ih, on, ah]
        unfold prAt
        rw [six', pp]
      rw [pe] at e
      exact e
    rw [cal_of pr]
    have y13 : (mPut (mPut M4 14 na (G.2 6 t)) 15 na (G.1 5 + 1)).1 13 = (na : Int) := z13
    rw [y13, if_pos (iA rfl), bnd_eq, ix_n (n := na) (by omega)]
    have x13 : (mPut (mPut (mPut M4 14 na (G.2 6 t)) 15 na (G.1 5 + 1)) 16 na (prAt G N t)).1 13 = (na : Int) := z13
    rw [bnd_eq, x13, mS2 (mPut (mPut (mPut M4 14 na (G.2 6 t)) 15 na (G.1 5 + 1)) 16 na (prAt G N t)) _ (by decide)]
    have x5 : (mPut (mPut (mPut M4 14 na (G.2 6 t)) 15 na (G.1 5 + 1)) 16 na (prAt G N t)).1 5 = G.1 5 + 1 := f5
    rw [x5]
  have hY1 := hY _ rfl
  generalize mSet (mSet G 36 0) 5 (G.1 5 + 1) = M4 at *
  have g36 : (mSet (mPut (mPut (mPut M4 14 na (G.2 6 t)) 15 na (G.1 5 + 1)) 16 na (prAt G N t)) 13 ((na : Int) + 1)).1 36 = 0 := (mS2 (mPut (mPut (mPut M4 14 na (G.2 6 t)) 15 na (G.1 5 + 1)) 16 na (prAt G N t)) _ (by decide)).trans f36
  obtain ⟨C', c1, c2, c3⟩ := deed_of (call_approve h hkc (x := (t : Int)) ⟨by omega, by omega⟩) hY1 g36 cd2_ne
  refine ⟨C', _, c1, c2, c3, hL4.scw (fun j hj => ?_) (fun k hk => ?_)⟩
  · exact mS2 (mPut (mPut (mPut M4 14 na (G.2 6 t)) 15 na (G.1 5 + 1)) 16 na (prAt G N t)) _ (by omega)
  · show (mPut (mPut (mPut M4 14 na (G.2 6 t)) 15 na (G.1 5 + 1)) 16 na (prAt G N t)).2 k = _
    rw [mPut_ne _ _ _ (by omega), mPut_ne _ _ _ (by omega), mPut_ne _ _ _ (by omega)]
theorem R_approveNo (h : RR b kc G C) (hkc : kc < 512) (hL : LW N np T E G) (ht : t < 8) (hp : G.2 6 t = -1) : ∃ C' G', fX11_approve b (t : Int) C = some (.inr 2, C') ∧ RR b (kc + 1) G' C' ∧ RmL b C C' ∧ LW N np T E G' := by
  have hY : fX12_approve (t : Int) G = some (0, mSet G 36 1) := by
    unfold fX12_approve
    rw [cal_of (hasP0 hL ht hp), bnd_eq, if_neg (by decide)]
    dsimp only
    rw [bnd_eq, mS1, if_neg (by decide)]
  obtain ⟨C', e, e1, e2, e3, e4, e5⟩ := deed_no (call_approve h hkc (x := (t : Int)) ⟨by omega, by omega⟩) hY (by rw [mS1]; decide)
  rw [mS1] at e2
  rw [cd2_2 e3 e2.symm] at e1
  exact ⟨C', _, e1, e4, e5, hL.sc (SmG.s36 G 1)⟩
theorem R_translate {l s : Nat} (h : RR b kc G C) (hL : LW N np T E G) (ht : t < 8) (hl : l < 2) (hs : s < 8) (hts : t ≠ s) (hp : G.2 6 t ≠ -1) : ∃ C' G', fX11_translate b (t : Int) ((l : Int) + 1) (s : Int) C = some (.inl (E 9 (t + 8 * l) - 1), C') ∧ RR b (kc + 1) G' C' ∧ RmL b C C' ∧ LW N np T (wPut (wPut E 9 (t + 8 * l) ((s : Int) + 1)) 9 (16 + t + 8 * l) (prAt G N t + 1)) G' := by
  have sx := hL.six (show t < 24 by omega)
  have i24 : ∀ {k}, mLen k = 24 → inR (t : Int) (mLen k) := fun h => inM (n := 24) h (by omega) (by decide)
  have i48 : ∀ {k}, mLen k = 48 → inR ((24 * l + t : Nat) : Int) (mLen k) := fun h => inM (n := 48) h (by omega) (by decide)
  have ee : (24 * (((l : Int) + 1) - 1)) + (t : Int) = ((24 * l + t : Nat) : Int) := by omega
  have old := (hL.2.2.1 l t hl ht).1
  have hY : fX12_translate (t : Int) ((l : Int) + 1) (s : Int) G = some (E 9 (t + 8 * l) - 1, mPut (mPut (mSet G 36 0) 17 (24 * l + t) (s : Int)) 18 (24 * l + t) (prAt G N t)) := by
    unfold fX12_translate
    rw [cal_of (isTt (G := G) (t := t) (by omega)), bnd_eq, bnd_eq, if_neg (by decide), cal_of (isTt (G := G) (t := s) (by omega)), if_neg (by decide), if_pos (i24 rfl), ix_n (n := t) (by omega), if_pos (by rw [w32_of (by omega) (by omega), show w32 (-1) = -1 from rfl]; exact hp)]
    rcases X12_in_ (x := (l : Int) + 1) (lo := 1) (hi := 2) G ⟨by omega, by omega⟩ ⟨by decide, by decide⟩ ⟨by decide, by decide⟩ with ⟨e, p⟩ | ⟨e, p⟩
    · rw [cal_of e, bnd_eq, if_neg (by decide), if_pos (by rw [w32_n (by omega), w32_n (by omega)]; omega)]
      dsimp only
      rw [bnd_eq, mS1, if_pos (by decide), bnd_eq, ee, if_pos (i48 rfl), bnd_eq, if_pos (i48 rfl), bnd_eq, ix_n (n := 24 * l + t) (by omega)]
      have pr := presP (G1 := mPut (mSet G 36 0) 17 (24 * l + t) (s : Int)) hL (t := t) (fun j hj => mS2 G _ (by omega)) (fun k hk => mPut_ne (mSet G 36 0) _ _ (by omega)) ht
      rw [cal_of pr, if_pos (i48 rfl), bnd_eq]
      have o17 : (mSet G 36 0).2 17 (24 * l + t) = E 9 (t + 8 * l) - 1 := by
        rw [old]
        show G.2 17 (24 * l + t) = _
        omega
      rw [o17]
    · exact absurd ⟨by omega, by omega⟩ p
  obtain ⟨C', c1, c2, c3⟩ := deed_of (call_translate h (x := (t : Int)) (y := (l : Int) + 1) (z := (s : Int)) ⟨by omega, by omega⟩ ⟨by omega, by omega⟩ ⟨by omega, by omega⟩) hY (show (mSet G 36 0).1 36 = 0 from mS1 G 36 0) cd2_ne
  refine ⟨C', _, c1, c2, c3, ?_⟩
  have hL1 := hL.sc (SmG.s36 G 0)
  have g2 : ∀ k, k ≠ 17 → k ≠ 18 → (mPut (mPut (mSet G 36 0) 17 (24 * l + t) (s : Int)) 18 (24 * l + t) (prAt G N t)).2 k = (mSet G 36 0).2 k := fun k a c => by rw [mPut_ne _ _ _ c, mPut_ne _ _ _ a]
  have g17 : ∀ i, (mPut (mPut (mSet G 36 0) 17 (24 * l + t) (s : Int)) 18 (24 * l + t) (prAt G N t)).2 17 i = if i = 24 * l + t then (s : Int) else (mSet G 36 0).2 17 i := fun i => by
    rw [mPut_ne _ _ _ (by decide)]
    by_cases e : i = 24 * l + t
    · rw [if_pos e, e, p2_1]
    · rw [if_neg e, p2_2 _ _ (Or.inr e)]
  have g18 : ∀ i, (mPut (mPut (mSet G 36 0) 17 (24 * l + t) (s : Int)) 18 (24 * l + t) (prAt G N t)).2 18 i = if i = 24 * l + t then prAt G N t else (mSet G 36 0).2 18 i := fun i => by
    by_cases e : i = 24 * l + t
    · rw [if_pos e, e, p2_1]
    · rw [if_neg e, p2_2 _ _ (Or.inr e), mPut_ne _ _ _ (by decide)]
  have g1 : (mPut (mPut (mSet G 36 0) 17 (24 * l + t) (s : Int)) 18 (24 * l + t) (prAt G N t)).1 = (mSet G 36 0).1 := rfl
  generalize mSet G 36 0 = G1 at *
  generalize mPut (mPut G1 17 (24 * l + t) (s : Int)) 18 (24 * l + t) (prAt G N t) = G2 at *
  obtain ⟨⟨hV, hP, hTt, hWG, hK⟩, hD, hTr, ⟨o1, o2, o3⟩, ⟨n1, n2⟩, n8, n10⟩ := hL1
  have r : ∀ k, k ≠ 9 → wPut (wPut E 9 (t + 8 * l) ((s : Int) + 1)) 9 (16 + t + 8 * l) (prAt G N t + 1) k = E k := fun k hk => by rw [wPk _ _ hk, wPk _ _ hk]
  refine ⟨⟨?_, ?_, fun v hv => ?_, ⟨fun u hu => ?_, fun u a c => ?_⟩, ?_⟩, ?_, fun l2 u hl2 hu => ?_, ⟨by rw [g1]; exact o1, ?_, ?_⟩, ⟨by rw [r 0 (by decide)]; exact n1, by rw [g1]; exact n2⟩, by rw [g1]; exact n8, by rw [r 10 (by decide)]; exact n10⟩
  · unfold WV at hV ⊢
    rw [r 0 (by decide), r 2 (by decide), g2 12 (by decide) (by decide), g2 11 (by decide) (by decide), g1]
    exact hV
  · unfold WP at hP ⊢
    rw [r 1 (by decide), g2 6 (by decide) (by decide)]
    exact hP
  · obtain ⟨b1, b2, b3, b4, b5⟩ := hTt v hv
    refine ⟨by rw [r 3 (by decide)]; exact b1, b2, b3, ?_, fun k hk => ?_⟩
    · rw [← b4]; unfold tl; rw [g2 10 (by decide) (by decide)]
    · rw [← b5 k hk]; unfold tx; rw [g2 9 (by decide) (by decide)]
  · have := hWG.1 u hu
    unfold WG at this ⊢
    rw [r 6 (by decide), g2 4 (by decide) (by decide), g2 27 (by decide) (by decide), g2 32 (by decide) (by decide), g2 30 (by decide) (by decide), g2 31 (by decide) (by decide), g2 33 (by decide) (by decide), g2 34 (by decide) (by decide), g2 35 (by decide) (by decide)]
    exact this
  · rw [g2 27 (by decide) (by decide), g2 32 (by decide) (by decide)]
    exact hWG.2 u a c
  · unfold WK at hK ⊢
    rw [r 0 (by decide), r 4 (by decide), r 5 (by decide), r 6 (by decide), r 8 (by decide), g2 26 (by decide) (by decide), g2 27 (by decide) (by decide), g2 28 (by decide) (by decide), g2 23 (by decide) (by decide), g2 24 (by decide) (by decide)]
    exact hK
  · unfold LD at hD ⊢
    rw [r 7 (by decide), g2 27 (by decide) (by decide), g2 30 (by decide) (by decide), g2 29 (by decide) (by decide)]
    exact hD
  · obtain ⟨z1, z2, z3⟩ := hTr l2 u hl2 hu
    rw [g17, g18]
    by_cases e : u = t ∧ l2 = l
    · obtain ⟨rfl, rfl⟩ := e
      rw [if_pos rfl, if_pos rfl, wP2 _ _ (by omega), wP1]
      refine ⟨by omega, by omega, fun _ => ?_⟩
      rw [wP1]
    · have ne : ¬ (24 * l2 + u = 24 * l + t) := by omega
      rw [if_neg ne, if_neg ne, wP2 _ _ (by omega), wP2 _ _ (by omega), wP2 _ _ (by omega), wP2 _ _ (by omega)]
      exact ⟨z1, z2, z3⟩
  · rw [g2 3 (by decide) (by decide)]; exact o2
  · rw [g2 6 (by decide) (by decide)]; exact o3
theorem R_transNo {l s : Nat} (h : RR b kc G C) (hL : LW N np T E G) (ht : t < 8) (hl : l < 2) (hs : s < 8) (hn : G.2 6 t = -1 ∨ (G.2 6 t ≠ -1 ∧ t = s)) : ∃ C' G', fX11_translate b (t : Int) ((l : Int) + 1) (s : Int) C = some (.inr (if G.2 6 t = -1 then 2 else 0), C') ∧ RR b (kc + 1) G' C' ∧ RmL b C C' ∧ LW N np T E G' := by
  have sx := hL.six (show t < 24 by omega)
  have i24 : ∀ {k}, mLen k = 24 → inR (t : Int) (mLen k) := fun h => inM (n := 24) h (by omega) (by decide)
  have hY : fX12_translate (t : Int) ((l : Int) + 1) (s : Int) G = some (0, mSet G 36 (if G.2 6 t = -1 then 1 else 2)) := by
    unfold fX12_translate
    rw [cal_of (isTt (G := G) (t := t) (by omega)), bnd_eq, bnd_eq, if_neg (by decide), cal_of (isTt (G := G) (t := s) (by omega)), if_neg (by decide), if_pos (i24 rfl), ix_n (n := t) (by omega)]
    rcases hn with z | ⟨z, z2⟩
    · rw [if_neg (by rw [z]; exact fun y => y rfl), if_pos z]
      dsimp only
      rw [bnd_eq, mS1, if_neg (by decide)]
    · rw [if_pos (by rw [w32_of (by omega) (by omega), show w32 (-1) = -1 from rfl]; exact z), if_neg z]
      rcases X12_in_ (x := (l : Int) + 1) (lo := 1) (hi := 2) G ⟨by omega, by omega⟩ ⟨by decide, by decide⟩ ⟨by decide, by decide⟩ with ⟨e, p⟩ | ⟨e, p⟩
      · rw [cal_of e, bnd_eq, if_neg (by decide), if_neg (by rw [z2]; exact fun y => y rfl)]
        dsimp only
        rw [bnd_eq, mS1, if_neg (by decide)]
      · exact absurd ⟨by omega, by omega⟩ p
  obtain ⟨C', e, e1, e2, e3, e4, e5⟩ := deed_no (call_translate h (x := (t : Int)) (y := (l : Int) + 1) (z := (s : Int)) ⟨by omega, by omega⟩ ⟨by omega, by omega⟩ ⟨by omega, by omega⟩) hY (by rw [mS1]; split <;> decide)
  rw [mS1] at e2
  have e6 := ex_fX11_translate b (t : Int) ((l : Int) + 1) (s : Int) C e C' e1
  have e7 : e = if G.2 6 t = -1 then 2 else 0 := by
    simp only [List.mem_cons, List.not_mem_nil, or_false] at e6
    by_cases z : G.2 6 t = -1
    · rw [if_pos z] at e2 ⊢
      exact cd2_2 e3 e2.symm
    · rw [if_neg z] at e2 ⊢
      rcases e6 with y | y
      · exact y
      · subst y; exact absurd e2 (by decide)
  rw [e7] at e1
  exact ⟨C', _, e1, e4, e5, hL.sc (SmG.s36 G _)⟩
end DEE2
