/-! MORE QUESTIONS: leads, inLanguage, isOutdated, odd, shownAnew -/
section ASK2
variable {b kc N np t : Nat} {E : Rw} {G G' : Md} {C C' : Cd} {T : Nat → List Nat}
theorem SmG.vs (s : SmG G G') : VSame G G' := ⟨fun j hj => s.1 j (by omega) (by omega), fun k hk => s.2 k (by omega) (by omega)⟩
def enG (N : Nat) (G : Md) : Env := envF G N 0 (-1) (fun t => ctF G t)
theorem enG_na (G : Md) (N na : Nat) : envF G N na (-1) (fun t => ctF G t) = enG N G := by
  have e : (fun t => seen G N na (-1) t) = fun t => seen G N 0 (-1) t := by
    funext t
    unfold seen
    rw [if_pos (Or.inl rfl), if_pos (Or.inl rfl)]
  unfold enG envF
  rw [e]
theorem enG_sm (s : SmG G G') : enG N G' = enG N G := by
  have e : (fun t => seen G' N 0 (-1) t) = fun t => seen G N 0 (-1) t := by
    funext t
    unfold seen
    rw [if_pos (Or.inl rfl), if_pos (Or.inl rfl)]
    exact prAt_same s.vs N t
  have e1 : tx G' = tx G := by funext v; exact tx_same s.vs v
  have e2 : tl G' = tl G := by funext v; exact tl_same s.vs v
  have e3 : (fun t => ctF G' t) = fun t => ctF G t := by funext t; unfold ctF; rw [s.2 32 (by decide) (by decide)]
  unfold enG envF
  rw [e, e1, e2, e3, s.2 19 (by decide) (by decide), s.2 20 (by decide) (by decide), s.2 21 (by decide) (by decide)]
theorem enG_ln (hW : LRw N G T E) : LEn N G T (enG N G) ∧ ∀ t, eSn (enG N G) t = prAt G N t := by
  have hs : ∀ t, eSn (enG N G) t = prAt G N t := fun t => by
    show seen G N 0 (-1) t = _
    unfold seen
    rw [if_pos (Or.inl rfl)]
  exact ⟨⟨fun t _ => hs t, rfl, fun v hv => (hW.2.2.1 v hv).2.2.2.1, fun c _ => memb8 hW.2.2.2.1 c⟩, hs⟩
theorem RR.enx (h : RR b kc G C) (hk : kc ≤ 1000) (h8 : G.1 8 = (N : Int)) : EnP (enG N G) ∧ ∀ M1 : Md, (∀ j, j ≤ 35 → M1.1 j = G.1 j) → (∀ k, k ≤ 40 → M1.2 k = G.2 k) → M1.1 39 = -1 → EnM M1 (enG N G) := by
  obtain ⟨VA, PA, LE, AA, np, na, hH, hK⟩ := h.nN h8
  have h5 : G.1 5 < 2147483648 := by have := h.2.2.2.1.1.2; omega
  have hMo := h.2.2.2.2.2.1
  have p := env_p (ct := fun t => ctF G t) hH hMo (-1)
  rw [enG_na] at p
  refine ⟨p, fun M1 a1 a2 a3 => ?_⟩
  have m := env_m (ct := fun t => ctF G t) hH hMo (fun t ht => ⟨(h.ctq ht).2.2, (h.ctq ht).2.1⟩) h5 a1 a2 a3 (by decide)
  rw [enG_na] at m
  exact m
theorem Q_leads (h : RR b kc G C) (hk : kc ≤ 1000) (h8 : G.1 8 = (N : Int)) (ht : t < 24) : ∃ C2, fX11_leads b (t : Int) C = some (.inl (wayF (enG N G) 5 t 0).1, C2) ∧ RR b kc G C2 ∧ Sz C C2 := by
  have hL := h.1.1
  have W := hL.W
  have hX := h.1.2.1
  obtain ⟨VA, PA, LE, AA, np, na, hH, hK⟩ := h.nN h8
  have h5 : G.1 5 < 2147483648 := by have := h.2.2.2.1.1.2; omega
  have hMo := h.2.2.2.2.2.1
  have hC := env_c (ct := fun t => ctF G t) hL hX hH hMo (fun t ht => ⟨(h.ctq ht).1, (h.ctq ht).2.1⟩) h5 (up := -1) (by decide)
  rw [enG_na] at hC
  have hP := (h.enx hk h8).1
  have up : ∀ C2, Fp (sWy b) C C2 → Fp (sX b (DyC b C)) C C2 := fun C2 f2 => f2.mono (fun q k a _ z => by unfold sWy at z; unfold sX; omega)
  obtain ⟨C2, e2, f2, s2, l2, _⟩ := X1_goalOf_ (E := enG N G) (VA := VA) (up := -1) hL (fun C2 f2 t ht => (hC C2 (up C2 f2)).2.1 t ht) (fun t ht hne => ⟨(hC C (up C (Fp.rf W))).1 t ht hne, by have := (hP.1 t ht hne).2.1.1.1; omega, (hP.1 t ht hne).2.2⟩) ht
  have hX : fX11_leads b (t : Int) C = some (.inl (wayF (enG N G) 5 t 0).1, C2) := by
    unfold fX11_leads
    rw [if_pos hL.o, calx_of (X11_titleOf_in hL ht), if_pos hL.o, bnd_eq, hL.r0, drf_some, if_pos hL.oe, cal_of e2]
  exact ⟨C2, hX, (h.quiet f2 sWy_qt sWy_hs (h.1.wy f2) ScO.rf).rb h.2.2.2.1, sz_fX11_leads b (t : Int) C _ _ hX⟩
/-- a title in a language, as the law finds it -/
def inL (G : Md) (l t : Nat) : Int := if trl G l t = -1 then (if l = 0 ∨ trl G 0 t = -1 then (t : Int) else trl G 0 t) else trl G l t
theorem Q_inLanguage {l : Nat} (h : RR b kc G C) (hL : LW N np T E G) (ht : t < 8) (hl : l < 2) : ∃ C' G', fX11_inLanguage b (t : Int) ((l : Int) + 1) C = some (.inl (inL G l t), C') ∧ RR b kc G' C' ∧ SmG G G' ∧ Sz C C' := by
  have h5 := fun (l : Nat) (hl : l < 2) => (hL.2.2.1 l t hl ht).2.1
  have pg : ∀ s, s < 24 → -1 ≤ (mSet G 36 0).2 6 s ∧ (mSet G 36 0).2 6 s < 200 := fun s hs => by have := hL.six hs; exact ⟨this.1, by show G.2 6 s < 200; omega⟩
  have e : fX12_asksIn (t : Int) ((l : Int) + 1) G = some (1, mSet G 36 0) := by
    rcases X12_asksIn_ (M := G) (x := (t : Int)) (l := (l : Int) + 1) ⟨by omega, by omega⟩ ⟨by omega, by omega⟩ with ⟨_, _, e⟩ | ⟨_, q, _⟩ | ⟨q, _⟩
    · exact e
    · exact absurd ⟨by omega, by omega⟩ q
    · exact absurd ⟨by omega, by omega⟩ q
  have tl_ := X12_translated_ (M := mSet G 36 0) (l := l) (t := t) hl (by omega) (by have := h5 l hl; exact ⟨this.1, by show G.2 17 (24 * l + t) < 24; omega⟩) pg
  have t0 := X12_translated_ (M := mSet G 36 0) (l := 0) (t := t) (by decide) (by omega) (by have := h5 0 (by decide); exact ⟨this.1, by show G.2 17 (24 * 0 + t) < 24; omega⟩) pg
  have g1 := trl_rng (M := G) (t := t) (l := l) (by have := h5 l hl; omega)
  have g0 := trl_rng (M := G) (t := t) (l := 0) (by have := h5 0 (by decide); omega)
  rw [show trl (mSet G 36 0) l t = trl G l t from rfl] at tl_
  rw [show trl (mSet G 36 0) 0 t = trl G 0 t from rfl, show (((0 : Nat) : Int) + 1) = 1 from rfl] at t0
  have wl1 : ∀ y : Int, -1 ≤ y → y < 24 → (w32 y = w32 (-1) ↔ y = -1) := fun y y1 y2 => by rw [w32_of (by omega) (by omega), show w32 (-1) = -1 from rfl]
  have hY : fX12_inLanguage (t : Int) ((l : Int) + 1) G = some (inL G l t, mSet G 36 0) := by
    unfold fX12_inLanguage inL
    rw [cal_of e, if_pos (by decide), cal_of tl_, bnd_eq, bnd_eq]
    by_cases z1 : trl G l t = -1
    · rw [if_neg (fun y => y ((wl1 _ g1.1 g1.2).mpr z1)), if_pos z1]
      by_cases l0 : l = 0
      · subst l0
        rw [if_pos (by decide), if_pos (Or.inl rfl)]
        dsimp only
        rw [bnd_eq, if_neg (fun y => y ((wl1 _ g1.1 g1.2).mpr z1))]
      · have l1 : l = 1 := by omega
        subst l1
        rw [if_neg (fun y => y rfl), cal_of t0]
        dsimp only
        rw [bnd_eq]
        by_cases z : trl G 0 t = -1
        · rw [if_neg (fun y => y ((wl1 _ g0.1 g0.2).mpr z)), if_pos (Or.inr z)]
        · rw [if_pos (fun y => z ((wl1 _ g0.1 g0.2).mp y)), if_neg (by omega)]
    · rw [if_pos (fun y => z1 ((wl1 _ g1.1 g1.2).mp y)), if_neg z1]
      dsimp only
      rw [bnd_eq, if_pos (fun y => z1 ((wl1 _ g1.1 g1.2).mp y))]
  obtain ⟨C', c1, c2, c3⟩ := ask_of h (call_inLanguage h (x := (t : Int)) (l := (l : Int) + 1) ⟨by omega, by omega⟩ ⟨by omega, by omega⟩) (sz_fX11_inLanguage b _ _ C) hY (SmG.s36 G 0) (mS1 G 36 0) cd2_ne
  exact ⟨C', _, c1, c2, SmG.s36 G 0, c3⟩
def outD (G : Md) (N l t : Nat) : Int := if G.2 17 (24 * l + t) = -1 then 0 else if G.2 6 t = -1 then 1 else if prAt G N t = G.2 18 (24 * l + t) then 0 else 1
theorem Q_isOutdated {l : Nat} (h : RR b kc G C) (hL : LW N np T E G) (ht : t < 8) (hl : l < 2) : ∃ C' G', fX11_isOutdated b (t : Int) ((l : Int) + 1) C = some (.inl (outD G N l t), C') ∧ RR b kc G' C' ∧ SmG G G' ∧ Sz C C' := by
  have h5 := (hL.2.2.1 l t hl ht).2.1
  have sx := hL.six (show t < 24 by omega)
  obtain ⟨_, _, h3⟩ := h.2.2.2.2.1 t (by omega)
  obtain ⟨⟨a1, a2⟩, a3⟩ := h3 l hl
  have e : fX12_asksIn (t : Int) ((l : Int) + 1) G = some (1, mSet G 36 0) := by
    rcases X12_asksIn_ (M := G) (x := (t : Int)) (l := (l : Int) + 1) ⟨by omega, by omega⟩ ⟨by omega, by omega⟩ with ⟨_, _, e⟩ | ⟨_, q, _⟩ | ⟨q, _⟩
    · exact e
    · exact absurd ⟨by omega, by omega⟩ q
    · exact absurd ⟨by omega, by omega⟩ q
  have e3 : (24 * (((l : Int) + 1) - 1)) + (t : Int) = ((24 * l + t : Nat) : Int) := by omega
  have pr := prAt_lt (N := N) hL.1.2.1 ht
  have n32 := hL.1.1.2.1
  have hY : fX12_isOutdated (t : Int) ((l : Int) + 1) G = some (outD G N l t, mSet G 36 0) := by
    unfold fX12_isOutdated outD
    rw [cal_of e, if_pos (by decide), bnd_eq, e3, if_pos (inM (n := 48) rfl (by omega) (by decide)), bnd_eq, bnd_eq, if_pos (inM (n := 24) rfl (show t < 24 by omega) (by decide)), bnd_eq, ix_n (n := 24 * l + t) (by omega), ix_n (n := t) (by omega), show (mSet G 36 0).2 17 (24 * l + t) = G.2 17 (24 * l + t) from rfl, show (mSet G 36 0).2 6 t = G.2 6 t from rfl]
    by_cases c : G.2 17 (24 * l + t) = -1
    · rw [if_pos (by rw [c]), if_pos c]; rfl
    · rw [if_neg (by rw [w32_of (by omega) (by omega), show w32 (-1) = -1 from rfl]; exact c), if_neg c]
      obtain ⟨b1, b2⟩ := a3 c
      by_cases c6 : G.2 6 t = -1
      · rw [if_pos (by rw [c6]), if_pos c6]; rfl
      · have pp := presP (G1 := mSet G 36 0) hL (t := t) (fun j hj => mS2 G _ (by omega)) (fun k hk => rfl) ht
        rw [if_neg (by rw [w32_of (by omega) (by omega), show w32 (-1) = -1 from rfl]; exact c6), if_neg c6, cal_of pp, if_pos (inM (n := 48) rfl (by omega) (by decide)), show (mSet G 36 0).2 18 (24 * l + t) = G.2 18 (24 * l + t) from rfl]
        by_cases d : prAt G N t = G.2 18 (24 * l + t)
        · rw [if_pos (by rw [d]), if_pos d]; rfl
        · rw [if_neg (by rw [w32_of (by omega) (by omega), w32_of (by omega) (by omega)]; exact d), if_neg d]; rfl
  obtain ⟨C', c1, c2, c3⟩ := ask_of h (call_isOutdated h (x := (t : Int)) (l := (l : Int) + 1) ⟨by omega, by omega⟩ ⟨by omega, by omega⟩) (sz_fX11_isOutdated b _ _ C) hY (SmG.s36 G 0) (mS1 G 36 0) cd2_ne
  exact ⟨C', _, c1, c2, SmG.s36 G 0, c3⟩
/-- the links of a rendering -/
def lkG (G : Md) (t : Nat) : Nat := if G.2 27 t = 0 then 0 else (G.2 31 t).toNat
theorem Q_odd (h : RR b kc G C) : fX11_odd b 1 C = some ((bitsN (fun t => decide (G.2 6 t = -1) && anyN (fun s => (lkG G s).testBit t) 24) 24 : Int), C) := by
  have hL := h.1.1
  have hlk : ∀ t, t < 24 → cI C 703 (b + 13 + 6 * t + 1) = (lkG G t : Int) ∧ lkG G t < 16777216 := fun t ht => by
    obtain ⟨r, lk, ct, rd, cd, us, q1, q2, q3, q4, q5, q6, q7⟩ := h.rg ht
    have e : lkG G t = lk := by
      unfold lkG
      rcases q1.2 with m | m
      · rw [if_pos m, (q7 m).2.1]
      · rw [if_neg (by omega), (q6 m).2.1.1]; rfl
    rw [e]
    exact q4.1
  have e3 := X11_wantedTitles_ hL hlk (pg := fun t => !decide (G.2 6 t = -1)) (fun t ht => by
    by_cases c : G.2 6 t = -1
    · exact Or.inl ⟨by rw [decide_eq_true c]; rfl, (h.cr ht).mpr c⟩
    · refine Or.inr ⟨by rw [decide_eq_false c]; rfl, ?_⟩
      cases hz : cR C 1203 (b + 13 + 6 * t) with
      | none => exact absurd ((h.cr ht).mp hz) c
      | some P => exact ⟨P, rfl⟩)
  have e4 : bitsN (fun t => !(!decide (G.2 6 t = -1)) && anyN (fun s => (lkG G s).testBit t) 24) 24 = bitsN (fun t => decide (G.2 6 t = -1) && anyN (fun s => (lkG G s).testBit t) 24) 24 := bitsN_congr 24 (fun t _ => by rw [Bool.not_not])
  rw [e4] at e3
  unfold fX11_odd
  rw [bnd_eq, if_neg (by decide), if_pos hL.o, cal_of e3]
/-- a title shown anew -/
theorem Q_shownAnew {j : Nat} (h : RR b kc G C) (hk : kc ≤ 900) (hL : LW N np T E G) (ht : t < 8) (hp : G.2 6 t ≠ -1) (hj : j < 100000) : ∃ C' G', fX11_shownAnew b (t : Int) (j : Int) C = some (.inl (rowAt (mX (enG N G) T 6 [t] (T (prAt G N t).toNat) mA0).1 j), C') ∧ RR b kc G' C' ∧ SmG G G' ∧ RmL b C C' := by
  have ht24 : t < 24 := by omega
  obtain ⟨e3, e4⟩ := h.enx (by omega) hL.2.2.2.2.2.1
  obtain ⟨e1, e2⟩ := enG_ln hL.1
  have hpr := h.prN hL.2.2.2.2.2.1 ht24 hp
  have sx := hL.six ht24
  have hne : eSn (enG N G) t ≠ -1 := by rw [e2 t]; exact hpr
  have mo : ∀ i, i ≠ 39 → i ≠ 36 → (mSet (mSet G 36 0) 39 (-1)).1 i = G.1 i := fun i a c => (mS2 (mSet G 36 0) _ a).trans (mS2 G _ c)
  have m39 : (mSet (mSet G 36 0) 39 (-1)).1 39 = -1 := mS1 _ _ _
  have m36 : (mSet (mSet G 36 0) 39 (-1)).1 36 = 0 := (mS2 (mSet G 36 0) _ (by decide)).trans (mS1 G 36 0)
  have hEM := e4 (mSet (mSet G 36 0) 39 (-1)) (fun i hi => mo i (by omega) (by omega)) (fun k _ => rfl) m39
  obtain ⟨⟨acc, s'⟩, hrun⟩ := runX_top e3 ht24 hne
  obtain ⟨M', x1, x2, x3, x4, x5⟩ := X12_expand_ e3 hEM (by rw [mo 71 (by decide) (by decide)]; exact h.2.2.1.2.2.2.1) ht24 hne hrun
  obtain ⟨z1, z2⟩ := runX_mtop (e1.tm hL.1) ht hne hrun
  rw [e2 t] at x1 z1
  have za : (mX (enG N G) T 6 [t] (T (prAt G N t).toNat) mA0).1 = acc := by rw [← z1]
  have e := X12_hasIndex_in (M := G) (t := t) (i := (j : Int)) ht24 ⟨by omega, by omega⟩ hp ⟨by omega, by omega⟩ (by omega)
  have pp := presP (G1 := mSet (mSet G 36 0) 39 (-1)) hL (t := t) (fun i hi => mo i (by omega) (by omega)) (fun k hk => rfl) ht
  have sm : SmG G M' := ⟨fun i hi _ => (x2.1 i (by omega)).trans (mo i (by omega) (by omega)), fun k hk _ => x2.2 k (by omega)⟩
  have hY : fX12_shownAnew (t : Int) (j : Int) G = some (rowAt acc j, M') := by
    unfold fX12_shownAnew
    rw [cal_of e, if_pos (by decide), bnd_eq, cal_of pp, cal_of x1]
    exact mrow_at x3 (by omega)
  obtain ⟨C', c1, c2, c3⟩ := deed_of (call_shownAnew h (by omega) (x := (t : Int)) (i := (j : Int)) ⟨by omega, by omega⟩ ⟨by omega, by omega⟩) hY ((x2.1 36 (by decide)).trans m36) cd2_ne
  rw [za]
  exact ⟨C', M', c1, c2.rb (h.2.2.2.1.sc sm), sm, c3⟩
end ASK2
