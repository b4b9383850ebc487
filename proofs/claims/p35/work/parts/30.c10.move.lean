/-! A PAGE IS MOVED, in both wikis -/
section MOV
variable {b kc N np t s : Nat} {E E' Es : Rw} {G G' M1 : Md} {C C' : Cd} {T : Nat → List Nat}
/-- a title shows another page -/
theorem LW.six_ {x : Int} (hL : LW N np T E G) (hs : s < 8) (hx : -1 ≤ x ∧ x < 120) : LW N np T (wPut E 1 s (x + 1)) (mPut G 6 s x) := by
  obtain ⟨⟨⟨v1, v2, v3, v4, v5, v6, v7⟩, hP, hTt, hWG, hK⟩, hD, hTr, ⟨o1, o2, o3⟩, ⟨n1, n2⟩, n8, n10⟩ := hL
  have r : ∀ k, k ≠ 1 → wPut E 1 s (x + 1) k = E k := fun k hk => wPk _ _ hk
  have g2 : ∀ k, k ≠ 6 → (mPut G 6 s x).2 k = G.2 k := fun k hk => mPut_ne G _ _ hk
  have g6 : ∀ u, (mPut G 6 s x).2 6 u = if u = s then x else G.2 6 u := fun u => by
    by_cases e : u = s
    · rw [if_pos e, e, p2_1]
    · rw [if_neg e, p2_2 G _ (Or.inr e)]
  have g1 : (mPut G 6 s x).1 = G.1 := rfl
  generalize mPut G 6 s x = G1 at *
  refine ⟨⟨?_, fun u hu => ?_, fun v hv => ?_, ⟨fun u hu => ?_, fun u a c => ?_⟩, ?_⟩, ?_, ?_, ⟨by rw [g1]; exact o1, ?_, fun u a c => ?_⟩, ⟨by rw [r 0 (by decide)]; exact n1, by rw [g1]; exact n2⟩, by rw [g1]; exact n8, by rw [r 10 (by decide)]; exact n10⟩
  · unfold WV
    rw [r 0 (by decide), r 2 (by decide), g2 12 (by decide), g2 11 (by decide), g1]
    exact ⟨v1, v2, v3, v4, v5, v6, v7⟩
  · obtain ⟨p1, p2, p3⟩ := hP u hu
    rw [g6]
    by_cases e : u = s
    · rw [if_pos e, e, wP1]; exact ⟨rfl, hx.1, hx.2⟩
    · rw [if_neg e, wP2 _ _ (Or.inr e)]; exact ⟨p1, p2, p3⟩
  · obtain ⟨b1, b2, b3, b4, b5⟩ := hTt v hv
    refine ⟨by rw [r 3 (by decide)]; exact b1, b2, b3, ?_, fun k hk => ?_⟩
    · rw [← b4]; unfold tl; rw [g2 10 (by decide)]
    · rw [← b5 k hk]; unfold tx; rw [g2 9 (by decide)]
  · have := hWG.1 u hu
    unfold WG at this ⊢
    rw [r 6 (by decide), g2 4 (by decide), g2 27 (by decide), g2 32 (by decide), g2 30 (by decide), g2 31 (by decide), g2 33 (by decide), g2 34 (by decide), g2 35 (by decide)]
    exact this
  · rw [g2 27 (by decide), g2 32 (by decide)]
    exact hWG.2 u a c
  · unfold WK at hK ⊢
    rw [r 0 (by decide), r 4 (by decide), r 5 (by decide), r 6 (by decide), r 8 (by decide), g2 26 (by decide), g2 27 (by decide), g2 28 (by decide), g2 23 (by decide), g2 24 (by decide)]
    exact hK
  · unfold LD at hD ⊢
    rw [r 7 (by decide), g2 27 (by decide), g2 30 (by decide), g2 29 (by decide)]
    exact hD
  · unfold LT at hTr ⊢
    rw [r 9 (by decide), g2 17 (by decide), g2 18 (by decide)]
    exact hTr
  · rw [g2 3 (by decide)]; exact o2
  · rw [g6, if_neg (by omega)]; exact o3 u a c
/-- a rendering is dropped -/
theorem LW.drop (hL : LW N np T E G) (hq : StQ G) (h22 : ∀ c, c < 8 → G.2 24 c ≤ G.1 22) (ht : t < 8) (h3 : E 0 3 + 8 < 100000) : ∃ Es G', fW_sets (t : Int) 0 E = some ((), wPut Es 6 (7 * t + 4) 0) ∧ fX12_dropRendering (t : Int) G = some ((), G') ∧ LW N np T (wPut (wPut Es 6 (7 * t + 4) 0) 6 (7 * t) 0) G' ∧ SeK t (ctF G t) 0 E Es 8 ∧ StQ G' ∧ (∀ j, j ≠ 22 → G'.1 j = G.1 j) ∧ (∀ k, k ≠ 24 → k ≠ 27 → k ≠ 32 → G'.2 k = G.2 k) ∧ ∀ c, c < 8 → G'.2 24 c ≤ G'.1 22 := by
  have hL0 := hL
  obtain ⟨⟨hV, hP, hTt, hWG, hK⟩, hD, hTr, ⟨o1, o2, o3⟩, ⟨n1, n2⟩, n8, n10⟩ := hL
  obtain ⟨k1, k2, k3, k4⟩ := hK
  obtain ⟨c1, c2, c3⟩ := (hWG.1 t ht).ct
  have r0 := (hWG.1 t ht).r0 ⟨k1, k2, k3, k4⟩ ht
  obtain ⟨Es, w1, w2⟩ := W_sets (E := E) (o := ctF G t) (c := 0) ht c1 (by decide) (by omega) (by
    rcases c3 with z | z
    · exact Or.inl z
    · exact Or.inr ⟨z.2.1, z.2.2⟩) (by omega)
  have w20 := w2
  obtain ⟨p1, p2, p3, p4, p5⟩ := w2
  -- the reference
  have drop : ∃ G', fX12_dropRendering (t : Int) G = some ((), G') ∧ (∀ j, j ≠ 22 → G'.1 j = G.1 j) ∧ (G.1 22 ≤ G'.1 22) ∧ (∀ k, k ≠ 24 → k ≠ 27 → k ≠ 32 → G'.2 k = G.2 k) ∧ (∀ c, c < 8 → if (ctF G t).testBit c = true then G.1 22 < G'.2 24 c ∧ G'.2 24 c ≤ G'.1 22 else G'.2 24 c = G.2 24 c) ∧ (G'.2 27 t = 0 ∧ G'.2 32 t = 0) ∧ ∀ u, u ≠ t → G'.2 27 u = G.2 27 u ∧ G'.2 32 u = G.2 32 u := by
    rcases (hWG.1 t ht).2.2 with z | z
    · have e0 : ctF G t = 0 := by unfold ctF; rw [z.2.2]; rfl
      refine ⟨G, X12_drop_0 (by omega) z.1, fun _ _ => rfl, Int.le_refl _, fun _ _ _ _ => rfl, fun c _ => ?_, ⟨z.1, z.2.2⟩, fun _ _ => ⟨rfl, rfl⟩⟩
      rw [e0, Nat.zero_testBit, if_neg (by decide)]
    · obtain ⟨G', d1, ⟨d2, d3, d4, d5⟩, d6, d7, d8⟩ := X12_drop_ (M := G) (t := t) (by omega) z.1 c1 c2
      have m1 : (mPut G 27 t 0).1 = G.1 := rfl
      have m24 : (mPut G 27 t 0).2 24 = G.2 24 := mPut_ne G _ _ (by decide)
      rw [m1] at d3 d4
      refine ⟨G', d1, fun j hj => d2 j hj, d3, fun k a b' c => (d6 k a c).trans (mPut_ne G _ _ b'), fun c hc => ?_, ⟨?_, d7⟩, fun u hu => ⟨?_, d8 u hu⟩⟩
      · have q := d5 c hc
        rw [m1, m24, Nat.zero_testBit] at q
        by_cases y : (ctF G t).testBit c = true
        · rw [if_pos ⟨hc, by rw [y]; decide⟩] at q
          rw [if_pos y]; exact q
        · rw [if_neg (fun x => y (by have := x.2; cases h : (ctF G t).testBit c <;> simp_all))] at q
          rw [if_neg y]; exact q
      · rw [d6 27 (by decide) (by decide), p2_1]
      · rw [d6 27 (by decide) (by decide), p2_2 G _ (Or.inr hu)]
  obtain ⟨G', e1, e2, e3, e4, e5, ⟨e6, e7⟩, e8⟩ := drop
  refine ⟨Es, G', w1, e1, ?_, w20, ?_, e2, e4, fun c hc => ?_⟩
  · have r : ∀ k, k ≠ 0 → k ≠ 6 → k ≠ 8 → wPut (wPut Es 6 (7 * t + 4) 0) 6 (7 * t) 0 k = E k := fun k a b' c => by rw [wPk _ _ b', wPk _ _ b', p1 k a c]
    have rr0 : ∀ i, i ≠ 3 → wPut (wPut Es 6 (7 * t + 4) 0) 6 (7 * t) 0 0 i = E 0 i := fun i hi => by rw [wPk _ _ (by decide), wPk _ _ (by decide), p2 i hi]
    have r03 : wPut (wPut Es 6 (7 * t + 4) 0) 6 (7 * t) 0 0 3 = Es 0 3 := by rw [wPk _ _ (by decide), wPk _ _ (by decide)]
    have r8 : wPut (wPut Es 6 (7 * t + 4) 0) 6 (7 * t) 0 8 = Es 8 := by rw [wPk _ _ (by decide), wPk _ _ (by decide)]
    have r6 : ∀ i, i ≠ 7 * t → i ≠ 7 * t + 4 → wPut (wPut Es 6 (7 * t + 4) 0) 6 (7 * t) 0 6 i = E 6 i := fun i a c => by rw [wP2 _ _ (Or.inr a), wP2 _ _ (Or.inr c), p1 6 (by decide) (by decide)]
    have r6t : wPut (wPut Es 6 (7 * t + 4) 0) 6 (7 * t) 0 6 (7 * t) = 0 := wP1 _ _ _ _
    generalize wPut (wPut Es 6 (7 * t + 4) 0) 6 (7 * t) 0 = E1 at *
    have tick : ∀ c, c < 8 → ((E 0 3 < Es 8 c ∧ Es 8 c ≤ Es 0 3 ∧ G.1 22 < G'.2 24 c) ∨ (Es 8 c = E 8 c ∧ G'.2 24 c = G.2 24 c)) := fun c hc => by
      have q := e5 c hc
      rcases p4 c hc with y | y
      · rw [Nat.zero_testBit] at y
        rw [if_neg (by rw [y.1]; decide)] at q
        exact Or.inr ⟨y.2, q⟩
      · rw [Nat.zero_testBit] at y
        have y1 : (ctF G t).testBit c = true := by cases h : (ctF G t).testBit c <;> simp_all
        rw [if_pos y1] at q
        exact Or.inl ⟨y.2.1, y.2.2, q.1⟩
    refine ⟨⟨?_, ?_, fun v hv => ?_, ⟨fun u hu => ?_, fun u a c => ?_⟩, ?_⟩, fun u hu h27 => ?_, ?_, ⟨(e2 2 (by decide)).trans o1, ?_, ?_⟩, ⟨(rr0 1 (by decide)).trans n1, (e2 7 (by decide)).trans n2⟩, (e2 8 (by decide)).trans n8, by rw [r 10 (by decide) (by decide) (by decide)]; exact n10⟩
    · unfold WV at hV ⊢
      rw [rr0 0 (by decide), rr0 2 (by decide), r 2 (by decide) (by decide) (by decide), e4 12 (by decide) (by decide) (by decide), e4 11 (by decide) (by decide) (by decide), e2 5 (by decide)]
      exact hV
    · unfold WP at hP ⊢
      rw [r 1 (by decide) (by decide) (by decide), e4 6 (by decide) (by decide) (by decide)]
      exact hP
    · obtain ⟨b1, b2, b3, b4, b5⟩ := hTt v hv
      refine ⟨by rw [r 3 (by decide) (by decide) (by decide)]; exact b1, b2, b3, ?_, fun k hk => ?_⟩
      · rw [← b4]; unfold tl; rw [e4 10 (by decide) (by decide) (by decide)]
      · rw [← b5 k hk]; unfold tx; rw [e4 9 (by decide) (by decide) (by decide)]
    · have gu := hWG.1 u hu
      by_cases e : u = t
      · subst e
        refine ⟨?_, ?_, Or.inl ⟨e6, r6t, e7⟩⟩
        · rw [r6 _ (by omega) (by omega), e4 4 (by decide) (by decide) (by decide)]; exact gu.1
        · rw [e4 4 (by decide) (by decide) (by decide)]; exact gu.2.1
      · unfold WG at gu ⊢
        rw [r6 (7 * u + 6) (by omega) (by omega), r6 (7 * u) (by omega) (by omega), r6 (7 * u + 1) (by omega) (by omega), r6 (7 * u + 2) (by omega) (by omega), r6 (7 * u + 3) (by omega) (by omega), r6 (7 * u + 4) (by omega) (by omega), r6 (7 * u + 5) (by omega) (by omega), e4 4 (by decide) (by decide) (by decide), (e8 u e).1, (e8 u e).2, e4 30 (by decide) (by decide) (by decide), e4 31 (by decide) (by decide) (by decide), e4 33 (by decide) (by decide) (by decide), e4 34 (by decide) (by decide) (by decide), e4 35 (by decide) (by decide) (by decide)]
        exact gu
    · rw [(e8 u (by omega)).1, (e8 u (by omega)).2]
      exact hWG.2 u a c
    · refine ⟨by rw [r03]; omega, fun u hu => ?_, fun c hc => ?_, fun u hu h27 => ?_⟩
      · rw [r 4 (by decide) (by decide) (by decide), r 5 (by decide) (by decide) (by decide), r03, e4 26 (by decide) (by decide) (by decide)]
        have := k2 u hu
        exact ⟨⟨this.1.1, by omega⟩, this.2⟩
      · rw [r8, r03]
        have := k3 c hc
        rcases tick c hc with y | y
        · omega
        · rw [y.1]; omega
      · have e : u ≠ t := fun e => by subst e; omega
        rw [(e8 u e).1] at h27
        obtain ⟨y1, y2, y3⟩ := k4 u hu h27
        rw [r6 (7 * u) (by omega) (by omega), r03, r 4 (by decide) (by decide) (by decide), r8, e4 28 (by decide) (by decide) (by decide), e4 23 (by decide) (by decide) (by decide)]
        refine ⟨by omega, y2, fun c hc => ?_⟩
        have h8 := hq.2 u hu
        rcases tick c hc with ⟨z1, z2, z3⟩ | ⟨z2, z3⟩
        · constructor
          · intro _; omega
          · intro _; omega
        · rw [z2, z3]; exact y3 c hc
    · rw [r 7 (by decide) (by decide) (by decide)]
      have e : u ≠ t := fun e => by subst e; omega
      rw [(e8 u e).1] at h27
      rw [e4 30 (by decide) (by decide) (by decide), e4 29 (by decide) (by decide) (by decide)]
      exact hD u hu h27
    · unfold LT at hTr ⊢
      rw [r 9 (by decide) (by decide) (by decide), e4 17 (by decide) (by decide) (by decide), e4 18 (by decide) (by decide) (by decide)]
      exact hTr
    · rw [e4 3 (by decide) (by decide) (by decide)]; exact o2
    · rw [e4 6 (by decide) (by decide) (by decide)]; exact o3
  · refine ⟨by rw [e4 26 (by decide) (by decide) (by decide)]; exact hq.1, fun u hu => ?_⟩
    rw [e4 28 (by decide) (by decide) (by decide)]
    have := hq.2 u hu
    omega
  · have q := e5 c hc
    have z := h22 c hc
    by_cases y : (ctF G t).testBit c = true
    · rw [if_pos y] at q; exact q.2
    · rw [if_neg y] at q; omega
theorem RR.h24 (h : RR b kc G C) : ∀ c, c < 8 → G.2 24 c ≤ G.1 22 := by
  obtain ⟨VA, PA, LE, AA, nv, np, na, hH, hK⟩ := h.2.2.2.2.2.2.1
  exact fun c hc => (hK.2.2.1 c hc).2
/-- the law's rows behind a move, ahead of the new version -/
def mvE (Es : Rw) (t s np : Nat) (y x : Int) : Rw := wPut (wPut (wPut (wPut (wPut (wPut Es 6 (7 * t + 4) 0) 6 (7 * t) 0) 1 s y) 0 2 x) 1 t ((np : Int) + 1)) 0 1 ((np : Int) + 1)
theorem R_move (h : RR b kc G C) (hkc : kc ≤ 600) (hL : LW N np T E G) (ht : t < 8) (hs : s < 8) (hp : G.2 6 t ≠ -1) (hps : G.2 6 s = -1) (h32 : N < 32) (h3 : E 0 3 + 16 < 100000) :
   ∃ C' G' E2 Es, fW_sets (t : Int) 0 E = some ((), wPut Es 6 (7 * t + 4) 0) ∧ SeK t (ctF G t) 0 E Es 8 ∧ fX11_move b (t : Int) (s : Int) C = some (.inl (N : Int), C') ∧ RR b (kc + 1) G' C' ∧ RmL b C C' ∧ fW_settles (avE (mvE Es t s np (G.2 6 t + 1) (G.1 5 + 1)) N (np : Int) (G.1 5 + 1) [10 + 16 * s]) = some ((), E2) ∧ LW (N + 1) (np + 1) (nT T N [10 + 16 * s]) E2 G' ∧ E 0 3 ≤ E2 0 3 ∧ E2 0 3 ≤ E 0 3 + 16 := by
  have sx := hL.six (show t < 24 by omega)
  have clk := h.2.2.2.1.1
  have hnp : np ≤ N := by
    obtain ⟨VA, PA, LE, AA, np', na, hH, hK⟩ := h.nN hL.2.2.2.2.2.1
    have a := hH.2.1.1
    have c := hH.2.1.2.1
    have d := hL.2.2.2.2.1.2
    omega
  have i24 : ∀ {u k : Nat}, u < 24 → mLen k = 24 → inR (u : Int) (mLen k) := fun hu h => inM (n := 24) h hu (by decide)
  have hL0 := hL.sc (SmG.s36 G 0)
  have hq0 : StQ (mSet G 36 0) := (hL.sto h).of rfl rfl (mS2 G _ (by decide))
  obtain ⟨Es, G4, w1, w2, w3, w4, w5, w6, w7, w8⟩ := hL0.drop hq0 (fun c hc => by rw [mS2 G _ (by decide)]; exact h.h24 c hc) ht (by omega)
  have six4 : G4.2 6 = G.2 6 := w7 6 (by decide) (by decide) (by decide)
  -- the page goes on
  have hL5 := w3.six_ (s := s) (x := G.2 6 t) hs ⟨by omega, by omega⟩
  have hL6 : LW N np T _ (mPut (mPut G4 6 s (G.2 6 t)) 78 0 (12000 + (s : Int))) := hL5.scw (fun _ _ => rfl) (fun k hk => mPut_ne _ _ _ (by omega))
  have f1 : ∀ j, j ≠ 36 → j ≠ 22 → (mPut (mPut G4 6 s (G.2 6 t)) 78 0 (12000 + (s : Int))).1 j = G.1 j := fun j a c => (w6 j c).trans (mS2 G _ a)
  have f36 : (mPut (mPut G4 6 s (G.2 6 t)) 78 0 (12000 + (s : Int))).1 36 = 0 := (w6 36 (by decide)).trans (mS1 G 36 0)
  have f78 : (mPut (mPut G4 6 s (G.2 6 t)) 78 0 (12000 + (s : Int))).2 78 0 = 12000 + (s : Int) := p2_1 _ _ _ _
  have q6 : StQ (mPut (mPut G4 6 s (G.2 6 t)) 78 0 (12000 + (s : Int))) := w5.of (by rw [mPut_ne _ _ _ (by decide), mPut_ne _ _ _ (by decide)]) (by rw [mPut_ne _ _ _ (by decide), mPut_ne _ _ _ (by decide)]) rfl
  have ev : ∀ G', (cal (fX12_newPage (t : Int) (mPut (mPut G4 6 s (G.2 6 t)) 78 0 (12000 + (s : Int)))) fun r9 M8 => cal (fX12_newVersionNow r9 78 0 1 M8) fun r11 M10 => cal (fX12_settleTitles M10) fun r13 M12 => some (r11, M12)) = some ((N : Int), G') → fX12_move (t : Int) (s : Int) G = some ((N : Int), G') := by
    intro G' e
    unfold fX12_move
    rw [cal_of (isTt (G := G) (t := t) (by omega)), bnd_eq, bnd_eq, if_neg (by decide), cal_of (isTt (G := G) (t := s) (by omega)), if_neg (by decide), if_pos (i24 (by omega) rfl), ix_n (n := t) (by omega), if_pos (by rw [w32_of (by omega) (by omega), show w32 (-1) = -1 from rfl]; exact hp), if_pos (i24 (by omega) rfl), bnd_eq, ix_n (n := s) (by omega), hps, if_neg (fun z => z rfl), cal_of (mayP hL (t := t) (by omega)), if_neg (by decide), cal_of (mayP hL (t := s) (by omega)), if_neg (by decide), hL.2.2.2.2.2.1, if_pos (by rw [w32_n (by omega), show w32 120 = 120 from rfl]; omega)]
    dsimp only
    rw [bnd_eq, mS1, if_pos (by decide), cal_of w2, if_pos (i24 (by omega) rfl), if_pos (i24 (by omega) rfl), bnd_eq, six4, if_pos (show inR 0 (mLen 78) from inM (d := 0) (n := 1) ml_78 (by decide) (by decide)), bnd_eq, show ix 0 = 0 from rfl]
    exact e
  generalize mPut (mPut G4 6 s (G.2 6 t)) 78 0 (12000 + (s : Int)) = G6 at *
  have g7 : G6.1 7 = (np : Int) := (f1 7 (by decide) (by decide)).trans hL.2.2.2.2.1.2
  have np_ := X12_newPage_ (M := G6) (t := t) (by omega) g7
  -- the clock and the page
  have g5 : G6.1 5 = G.1 5 := f1 5 (by decide) (by decide)
  have hL7 := hL6.clock (x := G.1 5 + 1) (by rw [g5]; omega)
  have hL8 := hL7.page ht hnp
  have cm : mSet (mSet (mPut G6 6 t (np : Int)) 7 ((np : Int) + 1)) 5 ((mSet (mPut G6 6 t (np : Int)) 7 ((np : Int) + 1)).1 5 + 1) = mSet (mPut (mSet G6 5 (G.1 5 + 1)) 6 t (np : Int)) 7 ((np : Int) + 1) := by
    have e5 : (mSet (mPut G6 6 t (np : Int)) 7 ((np : Int) + 1)).1 5 = G.1 5 := (mS2 (mPut G6 6 t (np : Int)) _ (by decide)).trans g5
    rw [e5]
    refine Prod.ext (funext fun j => ?_) rfl
    by_cases z5 : j = 5
    · subst z5
      rw [mS1, mS2 (mPut (mSet G6 5 (G.1 5 + 1)) 6 t (np : Int)) _ (by decide)]
      show _ = (mSet G6 5 (G.1 5 + 1)).1 5
      rw [mS1]
    · rw [mS2 _ _ z5]
      by_cases z7 : j = 7
      · subst z7; rw [mS1, mS1]
      · rw [mS2 _ _ z7, mS2 _ _ z7]
        show G6.1 j = (mSet G6 5 (G.1 5 + 1)).1 j
        rw [mS2 _ _ z5]
  have h36 : (mSet (mPut (mSet G6 5 (G.1 5 + 1)) 6 t (np : Int)) 7 ((np : Int) + 1)).1 36 = 0 := by
    rw [mS2 (mPut (mSet G6 5 (G.1 5 + 1)) 6 t (np : Int)) _ (by decide)]
    show (mSet G6 5 (G.1 5 + 1)).1 36 = 0
    rw [mS2 G6 _ (by decide)]; exact f36
  have h5 : (mSet (mPut (mSet G6 5 (G.1 5 + 1)) 6 t (np : Int)) 7 ((np : Int) + 1)).1 5 = G.1 5 + 1 := by
    rw [mS2 (mPut (mSet G6 5 (G.1 5 + 1)) 6 t (np : Int)) _ (by decide)]
    show (mSet G6 5 (G.1 5 + 1)).1 5 = _
    rw [mS1]
  have h78 : (mSet (mPut (mSet G6 5 (G.1 5 + 1)) 6 t (np : Int)) 7 ((np : Int) + 1)).2 78 0 = 12000 + (s : Int) := by
    show (mPut (mSet G6 5 (G.1 5 + 1)) 6 t (np : Int)).2 78 0 = _
    rw [mPut_ne _ _ _ (by decide)]; exact f78
  have q8 : StQ (mSet (mPut (mSet G6 5 (G.1 5 + 1)) 6 t (np : Int)) 7 ((np : Int) + 1)) := by
    refine q6.of ?_ ?_ ?_
    · show (mPut (mSet G6 5 (G.1 5 + 1)) 6 t (np : Int)).2 26 = _
      rw [mPut_ne _ _ _ (by decide)]; rfl
    · show (mPut (mSet G6 5 (G.1 5 + 1)) 6 t (np : Int)).2 28 = _
      rw [mPut_ne _ _ _ (by decide)]; rfl
    · rw [mS2 (mPut (mSet G6 5 (G.1 5 + 1)) 6 t (np : Int)) _ (by decide)]
      show (mSet G6 5 (G.1 5 + 1)).1 22 = _
      rw [mS2 G6 _ (by decide)]
  have ev2 : ∀ M1 G', fX12_newVersion (np : Int) (G.1 5 + 1) 78 0 1 (mSet (mPut (mSet G6 5 (G.1 5 + 1)) 6 t (np : Int)) 7 ((np : Int) + 1)) = some ((N : Int), M1) → fX12_settleTitles M1 = some ((), G') → (cal (fX12_newPage (t : Int) G6) fun r9 M8 => cal (fX12_newVersionNow r9 78 0 1 M8) fun r11 M10 => cal (fX12_settleTitles M10) fun r13 M12 => some (r11, M12)) = some ((N : Int), G') := by
    intro M1 G' a c
    rw [cal_of np_]
    have nn : fX12_newVersionNow (np : Int) 78 0 1 (mSet (mPut G6 6 t (np : Int)) 7 ((np : Int) + 1)) = some ((N : Int), M1) := by
      unfold fX12_newVersionNow
      rw [bnd_eq, cm, h5, cal_of a]
    rw [cal_of nn, cal_of c]
  generalize mSet (mPut (mSet G6 5 (G.1 5 + 1)) 6 t (np : Int)) 7 ((np : Int) + 1) = G8 at *
  have okR : okT [10 + 16 * s] := ⟨fun m hm => by
    rw [List.mem_singleton] at hm
    subst hm
    exact ⟨by omega, fun z => by omega, fun z => by omega, fun _ _ _ => by omega⟩, fun z => absurd z (by show ¬ 2 ≤ 1; decide)⟩
  have tkR : tks [10 + 16 * s] = [12000 + (s : Int)] := by
    show cdL (10 + 16 * s) ++ [] = _
    rw [List.append_nil]
    unfold cdL
    rw [show (10 + 16 * s) % 16 = 10 by omega, show (10 + 16 * s) / 16 = s by omega]
    rfl
  obtain ⟨M1, n1, n2⟩ := X12_newVersion_ (M := G8) (nv := N) (p := (np : Int)) (tm := G.1 5 + 1) (n := 1) (fr := 0) (k := 78) (g := fun _ => 12000 + (s : Int)) hL8.2.2.2.2.2.1 (by omega) (by decide) (by decide) (by rw [ml_78]; decide) (by decide) (fun i hi => by
    have : i = 0 := by omega
    subst this
    exact h78)
  have mE3 : (wPut (wPut (wPut (wPut (wPut (wPut Es 6 (7 * t + 4) 0) 6 (7 * t) 0) 1 s (G.2 6 t + 1)) 0 2 (G.1 5 + 1)) 1 t ((np : Int) + 1)) 0 1 ((np : Int) + 1)) 0 3 = Es 0 3 := by
    rw [wP2 _ _ (by omega), wP2 _ _ (by omega), wP2 _ _ (by omega), wP2 _ _ (by omega), wP2 _ _ (by omega), wP2 _ _ (by omega)]
  have s3 := w4.2.2.1
  obtain ⟨G', E2, z1, z2, z3, z4, z5, z6⟩ := hL8.fin q8 n2 SmG.rf (n2.1 36 (by decide)) h32 (by omega) (by rw [h5]; omega) okR ⟨by show 1 ≤ 1; decide, by show 1 ≤ 5; decide⟩ ⟨by rw [tkR]; rfl, fun k hk => by
    have : k = 0 := by omega
    subst this
    rw [tkR]; rfl⟩ (by rw [mE3]; omega)
  rw [mE3] at z5 z6
  have hY := ev G' (ev2 M1 G' n1 z1)
  obtain ⟨C', c1, c2, c3⟩ := deed_of (call_move h hkc (x := (t : Int)) (y := (s : Int)) ⟨by omega, by omega⟩ ⟨by omega, by omega⟩) hY (z2.trans h36) cd2_ne
  exact ⟨C', G', E2, Es, w1, w4, c1, c2, c3, z3, z4, by omega, by omega⟩
theorem R_moveNo (h : RR b kc G C) (hkc : kc ≤ 600) (hL : LW N np T E G) (ht : t < 8) (hs : s < 8) (hn : G.2 6 t = -1 ∨ (G.2 6 t ≠ -1 ∧ G.2 6 s ≠ -1)) : ∃ C' G', fX11_move b (t : Int) (s : Int) C = some (.inr (if G.2 6 t = -1 then 2 else 1), C') ∧ RR b (kc + 1) G' C' ∧ RmL b C C' ∧ LW N np T E G' := by
  have sx := hL.six (show t < 24 by omega)
  have ss := hL.six (show s < 24 by omega)
  have i24 : ∀ {u k : Nat}, u < 24 → mLen k = 24 → inR (u : Int) (mLen k) := fun hu h => inM (n := 24) h hu (by decide)
  have hY : fX12_move (t : Int) (s : Int) G = some (0, mSet G 36 (if G.2 6 t = -1 then 1 else 2)) := by
    unfold fX12_move
    rw [cal_of (isTt (G := G) (t := t) (by omega)), bnd_eq, bnd_eq, if_neg (by decide), cal_of (isTt (G := G) (t := s) (by omega)), if_neg (by decide), if_pos (i24 (by omega) rfl), ix_n (n := t) (by omega)]
    rcases hn with z | ⟨z, z2⟩
    · rw [if_neg (by rw [z]; exact fun y => y rfl), if_pos z]
      dsimp only
      rw [bnd_eq, mS1, if_neg (by decide)]
    · rw [if_pos (by rw [w32_of (by omega) (by omega), show w32 (-1) = -1 from rfl]; exact z), if_neg z, if_pos (i24 (by omega) rfl), bnd_eq, ix_n (n := s) (by omega), if_pos (by rw [w32_of (by omega) (by omega), show w32 (-1) = -1 from rfl]; exact z2)]
      dsimp only
      rw [bnd_eq, mS1, if_neg (by decide)]
  obtain ⟨C', e, e1, e2, e3, e4, e5⟩ := deed_no (call_move h hkc (x := (t : Int)) (y := (s : Int)) ⟨by omega, by omega⟩ ⟨by omega, by omega⟩) hY (by rw [mS1]; split <;> decide)
  rw [mS1] at e2
  have e6 := ex_fX11_move b (t : Int) (s : Int) C e C' e1
  have e7 : e = if G.2 6 t = -1 then 2 else 1 := by
    simp only [List.mem_cons, List.not_mem_nil, or_false] at e6
    by_cases z : G.2 6 t = -1
    · rw [if_pos z] at e2 ⊢
      exact cd2_2 e3 e2.symm
    · rw [if_neg z] at e2 ⊢
      rcases e6 with y | y
      · exact y
      · subst y; exact absurd e2 (by decide)
  rw [e7] at e1
  exact ⟨C', _, e1, e4, e5, hL.sc (SmG.s36 G _)⟩
end MOV
