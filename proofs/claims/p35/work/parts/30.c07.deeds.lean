/-! DEEDS IN BOTH WIKIS: bringIn, approve, rank, translate -/
section DEE
variable {b kc N np t : Nat} {E E' : Rw} {G G' G3 M1 Gs : Md} {C C' : Cd} {T : Nat → List Nat}
def avE (E : Rw) (N : Nat) (p tm : Int) (Tn : List Nat) : Rw := wPut (wPut (wPut (wPut E 2 (2 * N) p) 2 (2 * N + 1) tm) 3 N (encT Tn)) 0 0 ((N : Int) + 1)
abbrev nT (T : Nat → List Nat) (N : Nat) (Tn : List Nat) : Nat → List Nat := fun v => if v = N then Tn else T v
/-- what settling needs of a state -/
def StQ (G : Md) : Prop := (∀ u, u < 24 → -1 ≤ G.2 26 u ∧ G.2 26 u < 900) ∧ ∀ u, u < 8 → G.2 28 u ≤ G.1 22
theorem StQ.of {G G1 : Md} (h : StQ G) (a : G1.2 26 = G.2 26) (c : G1.2 28 = G.2 28) (d : G1.1 22 = G.1 22) : StQ G1 := by
  unfold StQ
  rw [a, c, d]
  exact h
theorem LW.sto (hL : LW N np T E G) (h : RR b kc G C) : StQ G := by
  have q := h.h26 hL.2.2.2.2.2.1 (fun u hu => (hL.six hu).1) hL.1.1.2.1
  exact ⟨q.1, q.2.1⟩
/-- a version more, and all settles -/
theorem LW.fin {p tm : Int} {g : Nat → Int} {n : Nat} {Tn : List Nat} (hL : LW N np T E G3) (hq : StQ G3) (n1 : NvM G3 M1 p tm g n N) (hs : SmG M1 Gs) (h36 : Gs.1 36 = G3.1 36) (h32 : N < 32) (hp : 0 ≤ p ∧ p ≤ (N : Int)) (htm : 1 ≤ tm ∧ tm ≤ G3.1 5) (ok : okT Tn) (hl : 1 ≤ Tn.length ∧ Tn.length ≤ 5) (hg : n = (tks Tn).length ∧ ∀ k, k < n → g k = (tks Tn).getD k 0) (h3 : E 0 3 + 8 < 100000) :
   ∃ G' E2, fX12_settleTitles Gs = some ((), G') ∧ G'.1 36 = G3.1 36 ∧ fW_settles (avE E N p tm Tn) = some ((), E2) ∧ LW (N + 1) np (nT T N Tn) E2 G' ∧ E 0 3 ≤ E2 0 3 ∧ E2 0 3 ≤ E 0 3 + 8 := by
  have hL5 := (hL.addV n1 h32 hp htm ok hl hg).sc hs
  have b0 := (hq.of (n1.2.2.1 26 (by omega)) (n1.2.2.1 28 (by omega)) (n1.1 22 (by decide))).of (hs.2 26 (by decide) (by decide)) (hs.2 28 (by decide) (by decide)) (hs.1 22 (by decide) (by decide))
  obtain ⟨G', s1, s2⟩ := hL5.st_ b0.1
  have hE3 : (wPut (wPut (wPut (wPut E 2 (2 * N) p) 2 (2 * N + 1) tm) 3 N (encT Tn)) 0 0 ((N : Int) + 1)) 0 3 = E 0 3 := by
    rw [wP2 _ _ (by omega), wP2 _ _ (by omega), wP2 _ _ (by omega), wP2 _ _ (by omega)]
  obtain ⟨E2, t1, t2, t3, t4⟩ := hL5.se_ s2 b0.2 b0.1 (by rw [hE3]; exact h3)
  rw [hE3] at t3 t4
  exact ⟨G', E2, s1, (s2.1 36 (by decide)).trans h36, t1, t2, t3, t4⟩
/-- nothing to settle -/
theorem LW.rest (hL : LW N np T E G) (h : RR b kc G C) (h3 : E 0 3 + 8 < 100000) : ∃ E2, fW_settles E = some ((), E2) ∧ LW N np T E2 G ∧ E 0 3 ≤ E2 0 3 ∧ E2 0 3 ≤ E 0 3 + 8 := by
  have q := h.h26 hL.2.2.2.2.2.1 (fun u hu => (hL.six hu).1) hL.1.1.2.1
  exact hL.se_ (G' := G) ⟨fun _ _ => rfl, Int.le_refl _, by omega, fun _ _ _ => rfl, fun u hu => ⟨q.2.2 u hu, by rw [if_pos (q.2.2 u hu)]⟩⟩ q.2.1 q.1 h3
theorem hasP (hL : LW N np T E G) (ht : t < 8) (hp : G.2 6 t ≠ -1) : fX12_hasPage (t : Int) G = some (1, G) := by
  have := hL.six (show t < 24 by omega)
  rcases X12_hasPage_ (M := G) (t := t) (by omega) ⟨by omega, by omega⟩ with ⟨e, p⟩ | ⟨e, p⟩
  · exact e
  · exact absurd hp p
theorem hasP0 (hL : LW N np T E G) (ht : t < 8) (hp : G.2 6 t = -1) : fX12_hasPage (t : Int) G = some (0, G) := by
  have := hL.six (show t < 24 by omega)
  rcases X12_hasPage_ (M := G) (t := t) (by omega) ⟨by omega, by omega⟩ with ⟨e, p⟩ | ⟨e, p⟩
  · exact absurd hp p
  · exact e
theorem mayP (hL : LW N np T E G) (ht : t < 24) : fX12_mayAt (t : Int) G = some (1, G) := by
  rcases X12_mayAt_ (M := G) (t := t) (by omega) (by rw [hL.2.2.2.1.1]; decide) (by rw [hL.2.2.2.1.2.1 t (by omega)]; decide) with ⟨m1, m2⟩ | ⟨m1, m2⟩
  · exact m1
  · exact absurd (by rw [hL.2.2.2.1.1, hL.2.2.2.1.2.1 t (by omega)]; decide) m2
theorem isTt (ht : t < 24) : fX12_isTitle (t : Int) G = some (1, G) := by
  rcases X12_isTitle_ (x := (t : Int)) G ⟨by omega, by omega⟩ with ⟨e, p⟩ | ⟨e, p⟩
  · exact e
  · exact absurd ⟨by omega, by omega⟩ p
/-- the draft is a text, in the reference -/
theorem draftT {Tn : List Nat} (h : RR b kc G C) (hD : DrA G (tks Tn)) (ok : okT Tn) (hl : 1 ≤ Tn.length ∧ Tn.length ≤ 5) : ∃ M11, fX12_isText 0 0 (G.1 1) G = some (1, M11) ∧ MO noS rTx G M11 := by
  obtain ⟨hD1, hD2, hD3⟩ := hD
  have isx : isTx (tkG Tn) (tks Tn).length = true := by rw [isTx_tks ok.1 hl.2]; exact isTL_of ok hl.1 hl.2
  obtain ⟨M11, i1, o1⟩ := X12_isText_ (M := G) (k := 0) (fr := 0) (n := (tks Tn).length) (g := tkG Tn) (by decide) (by decide) ⟨by rw [ml_0]; omega, by decide, fun i hi => by rw [Nat.zero_add]; exact hD3 i hi, fun k hk => by
    obtain ⟨dn, g, hd⟩ := h.2.1
    have e1 : dn = (tks Tn).length := by have := hd.1; omega
    have tk := hd.2.2.1.tks k (by omega)
    rw [← hd.2.2.2.2 k (by omega), hD3 k hk] at tk
    exact tk⟩ (by omega)
  rw [if_pos isx] at i1
  exact ⟨M11, by rw [hD1]; exact i1, o1⟩
theorem R_bringIn {Tn : List Nat} {x : Nat} (h : RR b kc G C) (hkc : kc ≤ 600) (hL : LW N np T E G) (ht : t < 8) (hp : G.2 6 t ≠ -1) (hx : 1 ≤ x ∧ (x : Int) ≤ G.1 5) (hD : DrA G (tks Tn)) (ok : okT Tn) (hl : 1 ≤ Tn.length ∧ Tn.length ≤ 5) (h32 : N < 32) (h3 : E 0 3 + 8 < 100000) :
   ∃ C' G' E2, fX11_bringIn b (t : Int) (x : Int) C = some (.inl (N : Int), C') ∧ RR b (kc + 1) G' C' ∧ RmL b C C' ∧ fW_settles (avE E N (G.2 6 t) (x : Int) Tn) = some ((), E2) ∧ LW (N + 1) np (nT T N Tn) E2 G' ∧ E 0 3 ≤ E2 0 3 ∧ E2 0 3 ≤ E 0 3 + 8 := by
  obtain ⟨M11, i1, o1⟩ := draftT h hD ok hl
  obtain ⟨hD1, hD2, hD3⟩ := hD
  have sx := hL.six (show t < 24 by omega)
  have clk := hL.1.1.2.2.2.2.2.1
  have npl : G.2 6 t < (N : Int) := by
    obtain ⟨VA, PA, LE, AA, np', na, hH, hK⟩ := h.nN hL.2.2.2.2.2.1
    have a := hH.2.1.1
    have c := hH.2.1.2.1
    rcases hH.2.2.2.1.1 t (by omega) with z | ⟨p, p1, p2, p3⟩
    · exact absurd z.1 hp
    · omega
  have sm := (MO.sm o1).tr (SmG.s36 M11 0)
  have hL3 := hL.sc sm
  have a1 : ∀ j, j ≠ 36 → (mSet M11 36 0).1 j = G.1 j := fun j hj => (mS2 M11 _ hj).trans (o1.1 j (fun z => z))
  have hq := (hL.sto h).of (G1 := mSet M11 36 0) (sm.2 26 (by decide) (by decide)) (sm.2 28 (by decide) (by decide)) (sm.1 22 (by decide) (by decide))
  have d0 : ∀ k, k < (tks Tn).length → (mSet M11 36 0).2 0 k = tkG Tn k := fun k hk => by
    show M11.2 0 k = _
    rw [o1.2 0 (by intro z; unfold rTx at z; omega)]
    exact hD3 k hk
  have s6 : (mSet M11 36 0).2 6 = G.2 6 := sm.2 6 (by decide) (by decide)
  have ev : ∀ G', fX12_fromDraft (G.2 6 t) (x : Int) (mSet M11 36 0) = some ((N : Int), G') → fX12_bringIn (t : Int) (x : Int) G = some ((N : Int), G') := by
    intro G' n1
    unfold fX12_bringIn
    rw [cal_of (hasP hL ht hp), bnd_eq, if_pos (by decide)]
    rcases X12_in_ (x := (x : Int)) (lo := 1) (hi := G.1 5) G ⟨by omega, by omega⟩ ⟨by decide, by decide⟩ ⟨by omega, by omega⟩ with ⟨e, p⟩ | ⟨e, p⟩
    · rw [cal_of e, if_pos (by decide), cal_of (mayP hL (by omega)), bnd_eq, if_neg (by decide), cal_of i1, if_neg (by decide), o1.1 8 (fun z => z), hL.2.2.2.2.2.1, if_pos (by rw [w32_n (by omega), show w32 120 = 120 from rfl]; omega)]
      dsimp only
      rw [bnd_eq, bnd_eq, mS1, if_neg (by decide), if_pos (inM (n := 24) rfl (show t < 24 by omega) (by decide)), ix_n (by omega), s6, cal_of n1]
    · exact absurd ⟨by omega, by omega⟩ p
  have g36 : (mSet M11 36 0).1 36 = 0 := mS1 _ _ _
  have g5 := a1 5 (by decide)
  have g8 := (a1 8 (by decide)).trans hL.2.2.2.2.2.1
  have g1 := (a1 1 (by decide)).trans hD1
  generalize mSet M11 36 0 = G3 at *
  obtain ⟨M1, n1, n2⟩ := X12_fromDraft_ (M := G3) (nv := N) (p := G.2 6 t) (tm := (x : Int)) (dn := (tks Tn).length) (g := tkG Tn) g8 (by omega) g1 hD2 d0
  obtain ⟨G', E2, f1, f2, f3, f4, f5, f6⟩ := hL3.fin hq n1 (SmG.s1 M1 0) ((mS2 M1 _ (by decide)).trans (n1.1 36 (by decide))) h32 (by omega) (by rw [g5]; omega) ok hl ⟨rfl, fun k _ => rfl⟩ h3
  have hY := ev G' (n2 G' f1)
  obtain ⟨C', c1, c2, c3⟩ := deed_of (call_bringIn h hkc (x := (t : Int)) (y := (x : Int)) ⟨by omega, by omega⟩ ⟨by omega, by omega⟩) hY (f2.trans g36) (fun e _ => by unfold cd1; split; decide; split <;> decide)
  exact ⟨C', G', E2, c1, c2, c3, f3, f4, f5, f6⟩
/-- bringIn, refused: no page there, or another time -/
theorem R_bringNo {x : Int} (h : RR b kc G C) (hkc : kc ≤ 600) (hL : LW N np T E G) (ht : t < 8) (hx : 0 ≤ x ∧ x < 1000000) (hn : G.2 6 t = -1 ∨ (G.2 6 t ≠ -1 ∧ ¬ (1 ≤ x ∧ x ≤ G.1 5))) : ∃ C' G', fX11_bringIn b (t : Int) x C = some (.inr (if G.2 6 t = -1 then 2 else 0), C') ∧ RR b (kc + 1) G' C' ∧ RmL b C C' ∧ LW N np T E G' := by
  have clk := hL.1.1.2.2.2.2.2.1
  have hY : fX12_bringIn (t : Int) x G = some (0, mSet G 36 (if G.2 6 t = -1 then 1 else 2)) := by
    unfold fX12_bringIn
    rcases hn with z | ⟨z, z2⟩
    · rw [cal_of (hasP0 hL ht z), bnd_eq, if_neg (by decide), if_pos z]
      dsimp only
      rw [bnd_eq, bnd_eq, mS1, if_pos (by decide)]
    · rw [cal_of (hasP hL ht z), bnd_eq, if_pos (by decide), if_neg z]
      rcases X12_in_ (x := x) (lo := 1) (hi := G.1 5) G ⟨by omega, by omega⟩ ⟨by decide, by decide⟩ ⟨by omega, by omega⟩ with ⟨e, p⟩ | ⟨e, p⟩
      · exact absurd p z2
      · rw [cal_of e, if_neg (by decide)]
        dsimp only
        rw [bnd_eq, bnd_eq, mS1, if_pos (by decide)]
  obtain ⟨C', e, e1, e2, e3, e4, e5⟩ := deed_no (call_bringIn h hkc (x := (t : Int)) (y := x) ⟨by omega, by omega⟩ ⟨by omega, by omega⟩) hY (by rw [mS1]; split <;> decide)
  rw [mS1] at e2
  have e7 : e = if G.2 6 t = -1 then 2 else 0 := by
    by_cases z : G.2 6 t = -1
    · rw [if_pos z] at e2 ⊢
      rcases (show e = 0 ∨ e = 1 ∨ e = 2 by omega) with y | y | y <;> subst y
      · exact absurd e2 (by decide)
      · exact absurd e2 (by decide)
      · rfl
    · rw [if_neg z] at e2 ⊢
      rcases (show e = 0 ∨ e = 1 ∨ e = 2 by omega) with y | y | y <;> subst y
      · rfl
      · exact absurd e2 (by decide)
      · exact absurd e2 (by decide)
  rw [e7] at e1
  exact ⟨C', _, e1, e4, e5, hL.sc (SmG.s36 G _)⟩
/-- a title's rank, in both -/
theorem R_rank {y : Nat} (h : RR b kc G C) (hL : LW N np T E G) (ht : t < 8) (hy : y ≤ 99) : ∃ C' G', fX11_rank b (t : Int) (y : Int) C = some (.inl (E 6 (7 * t + 6)), C') ∧ RR b (kc + 1) G' C' ∧ RmL b C C' ∧ LW N np T (wPut E 6 (7 * t + 6) (y : Int)) G' := by
  have hw := (hL.1.2.2.2.1.1 t ht).1
  have hY : fX12_rank (t : Int) (y : Int) G = some (E 6 (7 * t + 6), mPut (mSet G 36 0) 4 t (y : Int)) := by
    unfold fX12_rank
    rw [cal_of (isTt (G := G) (t := t) (by omega)), bnd_eq, if_pos (by decide)]
    rcases X12_in_ (x := (y : Int)) (lo := 0) (hi := 99) G ⟨by omega, by omega⟩ ⟨by decide, by decide⟩ ⟨by decide, by decide⟩ with ⟨e, p⟩ | ⟨e, p⟩
    · rw [cal_of e, if_pos (by decide)]
      dsimp only
      rw [bnd_eq, mS1, if_pos (by decide), if_pos (inM (n := 24) rfl (show t < 24 by omega) (by decide)), bnd_eq, if_pos (inM (n := 24) rfl (show t < 24 by omega) (by decide)), bnd_eq, ix_n (by omega), hw]
      rfl
    · exact absurd ⟨by omega, by omega⟩ p
  obtain ⟨C', c1, c2, c3⟩ := deed_of (call_rank h (x := (t : Int)) (y := (y : Int)) ⟨by omega, by omega⟩ ⟨by omega, by omega⟩) hY (show (mSet G 36 0).1 36 = 0 from mS1 G 36 0) cd2_ne
  refine ⟨C', _, c1, c2, c3, ?_⟩
  have hL1 := hL.sc (SmG.s36 G 0)
  have g4 : ∀ u, (mPut (mSet G 36 0) 4 t (y : Int)).2 4 u = if u = t then (y : Int) else (mSet G 36 0).2 4 u := fun u => by
    by_cases e : u = t
    · rw [if_pos e, e, p2_1]
    · rw [if_neg e, p2_2 _ _ (Or.inr e)]
  have g2 : ∀ k, k ≠ 4 → (mPut (mSet G 36 0) 4 t (y : Int)).2 k = (mSet G 36 0).2 k := fun k hk => mPut_ne _ _ _ hk
  have g1 : (mPut (mSet G 36 0) 4 t (y : Int)).1 = (mSet G 36 0).1 := rfl
  generalize mSet G 36 0 = G1 at *
  generalize mPut G1 4 t (y : Int) = G2 at *
  obtain ⟨⟨hV, hP, hTt, hWG, hK⟩, hD, hTr, ⟨o1, o2, o3⟩, ⟨n1, n2⟩, n8, n10⟩ := hL1
  have r : ∀ k, k ≠ 6 → wPut E 6 (7 * t + 6) (y : Int) k = E k := fun k hk => wPk _ _ hk
  have r6 : ∀ j, j ≠ 7 * t + 6 → wPut E 6 (7 * t + 6) (y : Int) 6 j = E 6 j := fun j hj => wP2 _ _ (Or.inr hj)
  refine ⟨⟨?_, ?_, fun v hv => ?_, ⟨fun u hu => ?_, fun u a c => ?_⟩, ?_⟩, ?_, ?_, ⟨by rw [g1]; exact o1, ?_, ?_⟩, ⟨by rw [r 0 (by decide)]; exact n1, by rw [g1]; exact n2⟩, by rw [g1]; exact n8, by rw [r 10 (by decide)]; exact n10⟩
  · unfold WV at hV ⊢
    rw [r 0 (by decide), r 2 (by decide), g2 12 (by decide), g2 11 (by decide), g1]
    exact hV
  · unfold WP at hP ⊢
    rw [r 1 (by decide), g2 6 (by decide)]
    exact hP
  · obtain ⟨b1, b2, b3, b4, b5⟩ := hTt v hv
    refine ⟨by rw [r 3 (by decide)]; exact b1, b2, b3, ?_, fun k hk => ?_⟩
    · rw [← b4]; unfold tl; rw [g2 10 (by decide)]
    · rw [← b5 k hk]; unfold tx; rw [g2 9 (by decide)]
  · obtain ⟨w1, w2, w3⟩ := hWG.1 u hu
    refine ⟨?_, ?_, ?_⟩
    · rw [g4]
      by_cases e : u = t
      · rw [if_pos e, e, wP1]
      · rw [if_neg e, r6 _ (by omega)]; exact w1
    · rw [g4]
      by_cases e : u = t
      · rw [if_pos e]; omega
      · rw [if_neg e]; exact w2
    · rw [r6 (7 * u) (by omega), r6 (7 * u + 1) (by omega), r6 (7 * u + 2) (by omega), r6 (7 * u + 3) (by omega), r6 (7 * u + 4) (by omega), r6 (7 * u + 5) (by omega), g2 27 (by decide), g2 32 (by decide), g2 30 (by decide), g2 31 (by decide), g2 33 (by decide), g2 34 (by decide), g2 35 (by decide)]
      exact w3
  · rw [g2 27 (by decide), g2 32 (by decide)]
    exact hWG.2 u a c
  · obtain ⟨k1, k2, k3, k4⟩ := hK
    refine ⟨by rw [r 0 (by decide)]; exact k1, fun u hu => by rw [r 0 (by decide), r 4 (by decide), r 5 (by decide), g2 26 (by decide)]; exact k2 u hu, fun c hc => by rw [r 0 (by decide), r 8 (by decide)]; exact k3 c hc, fun s hs h27 => ?_⟩
    rw [g2 27 (by decide)] at h27
    rw [r 0 (by decide), r 4 (by decide), r 8 (by decide), r6 (7 * s) (by omega), g2 28 (by decide), g2 23 (by decide), g2 24 (by decide)]
    exact k4 s hs h27
  · unfold LD at hD ⊢
    rw [r 7 (by decide), g2 27 (by decide), g2 30 (by decide), g2 29 (by decide)]
    exact hD
  · unfold LT at hTr ⊢
    rw [r 9 (by decide), g2 17 (by decide), g2 18 (by decide)]
    exact hTr
  · rw [g2 3 (by decide)]; exact o2
  · rw [g2 6 (by decide)]; exact o3
end DEE
