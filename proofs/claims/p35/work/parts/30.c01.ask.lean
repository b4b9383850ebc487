/-! THE LAW'S WIKI AND THE REFERENCE; what the class answers to questions -/
def LD (E : Rw) (G : Md) : Prop := ∀ t, t < 8 → G.2 27 t = 1 → ∃ r : List Int, r.length ≤ 150 ∧ G.2 30 t = (r.length : Int) ∧ (∀ k, k < r.length → G.2 29 (150 * t + k) = r.getD k 0) ∧ E 7 t = digF r
def LT (E : Rw) (G : Md) : Prop := ∀ l t, l < 2 → t < 8 → E 9 (t + 8 * l) = G.2 17 (24 * l + t) + 1 ∧ (-1 ≤ G.2 17 (24 * l + t) ∧ G.2 17 (24 * l + t) < 8) ∧ (G.2 17 (24 * l + t) ≠ -1 → E 9 (16 + t + 8 * l) = G.2 18 (24 * l + t) + 1)
def LO (G : Md) : Prop := G.1 2 = 0 ∧ (∀ t, t < 24 → G.2 3 t = 0) ∧ ∀ t, 8 ≤ t → t < 24 → G.2 6 t = -1
def LW (N np : Nat) (T : Nat → List Nat) (E : Rw) (G : Md) : Prop := LRw N G T E ∧ LD E G ∧ LT E G ∧ LO G ∧ (E 0 1 = (np : Int) ∧ G.1 7 = (np : Int)) ∧ G.1 8 = (N : Int) ∧ E 10 6 = 0
/-- the same, as far as the law's wiki goes -/
def SmG (G G' : Md) : Prop := (∀ j, j ≤ 35 → j ≠ 1 → G'.1 j = G.1 j) ∧ ∀ k, k ≤ 36 → k ≠ 0 → G'.2 k = G.2 k
theorem LRw.sc {N : Nat} {T : Nat → List Nat} {E : Rw} {G G' : Md} (h : LRw N G T E) (s : SmG G G') : LRw N G' T E := by
  obtain ⟨h1, h2, h3, h4, h5⟩ := h
  refine ⟨?_, ?_, ?_, ?_, ?_⟩
  · unfold WV at h1 ⊢
    rw [s.2 12 (by decide) (by decide), s.2 11 (by decide) (by decide), s.1 5 (by decide) (by decide)]
    exact h1
  · unfold WP at h2 ⊢
    rw [s.2 6 (by decide) (by decide)]
    exact h2
  · intro v hv
    obtain ⟨a1, a2, a3, a4, a5⟩ := h3 v hv
    refine ⟨a1, a2, a3, ?_, fun k hk => ?_⟩
    · rw [← a4]; unfold tl; rw [s.2 10 (by decide) (by decide)]
    · rw [← a5 k hk]; unfold tx; rw [s.2 9 (by decide) (by decide)]
  · refine ⟨fun t ht => ?_, fun t a b => ?_⟩
    · have := h4.1 t ht
      unfold WG at this ⊢
      rw [s.2 4 (by decide) (by decide), s.2 27 (by decide) (by decide), s.2 32 (by decide) (by decide), s.2 30 (by decide) (by decide), s.2 31 (by decide) (by decide), s.2 33 (by decide) (by decide), s.2 34 (by decide) (by decide), s.2 35 (by decide) (by decide)]
      exact this
    · rw [s.2 27 (by decide) (by decide), s.2 32 (by decide) (by decide)]
      exact h4.2 t a b
  · unfold WK at h5 ⊢
    rw [s.2 26 (by decide) (by decide), s.2 27 (by decide) (by decide), s.2 28 (by decide) (by decide), s.2 23 (by decide) (by decide), s.2 24 (by decide) (by decide)]
    exact h5
theorem LW.sc {N np : Nat} {T : Nat → List Nat} {E : Rw} {G G' : Md} (h : LW N np T E G) (s : SmG G G') : LW N np T E G' := by
  obtain ⟨h1, h2, h3, ⟨h4, h5, h6⟩, ⟨h7, h8⟩, h9, h10⟩ := h
  refine ⟨h1.sc s, ?_, ?_, ⟨(s.1 2 (by decide) (by decide)).trans h4, ?_, ?_⟩, ⟨h7, (s.1 7 (by decide) (by decide)).trans h8⟩, (s.1 8 (by decide) (by decide)).trans h9, h10⟩
  · unfold LD at h2 ⊢
    rw [s.2 27 (by decide) (by decide), s.2 30 (by decide) (by decide), s.2 29 (by decide) (by decide)]
    exact h2
  · unfold LT at h3 ⊢
    rw [s.2 17 (by decide) (by decide), s.2 18 (by decide) (by decide)]
    exact h3
  · rw [s.2 3 (by decide) (by decide)]; exact h5
  · rw [s.2 6 (by decide) (by decide)]; exact h6
theorem ScO.sm {G G' : Md} (h : ScO G G') : SmG G G' := ⟨fun j hj _ => h.1 j hj, fun k hk _ => h.2.1 k hk⟩
section ASK
variable {b kc N np t : Nat} {E : Rw} {G : Md} {C C' : Cd} {T : Nat → List Nat}
theorem RR.bump (h : RR b kc G C) : RR b kc G (cBump C) := (h.nil (Fp.bump h.1.1.W) ScO.rf).rb h.2.2.2.1
theorem RR.nN (h : RR b kc G C) (h8 : G.1 8 = (N : Int)) : ∃ VA PA LE AA np na, RH b G C VA PA LE AA N np na ∧ RK G N := by
  obtain ⟨VA, PA, LE, AA, nv, np, na, hH, hK⟩ := h.2.2.2.2.2.2.1
  have e : nv = N := by have := hH.1.1.1; omega
  subst e
  exact ⟨VA, PA, LE, AA, np, na, hH, hK⟩
theorem RR.atN (h : RR b kc G C) (h8 : G.1 8 = (N : Int)) (ht : t < 24) : ∃ VA PA LE AA np na, RH b G C VA PA LE AA N np na ∧ RK G N ∧ ((G.2 6 t = -1 ∧ cR C 1203 (b + 13 + 6 * t) = none) ∨ ∃ p, p < np ∧ G.2 6 t = (p : Int) ∧ cR C 1203 (b + 13 + 6 * t) = some (PA p)) := by
  obtain ⟨VA, PA, LE, AA, nv, np, na, hH, hK, hc⟩ := h.at_ ht
  have e : nv = N := by have := hH.1.1.1; omega
  subst e
  exact ⟨VA, PA, LE, AA, np, na, hH, hK, hc⟩
theorem Q_clock (h : RR b kc G C) : fX11_clock b C = some (G.1 5, C) := by
  unfold fX11_clock
  rw [if_pos h.1.1.o, h.2.2.1.2.1]
/-- how many versions a title's page has -/
def nVers (G : Md) (N t : Nat) : Nat := if G.2 6 t = -1 then 0 else cnt (onp G (G.2 6 t)) N
theorem Q_versions (h : RR b kc G C) (h8 : G.1 8 = (N : Int)) (ht : t < 24) : fX11_versions b (t : Int) C = some (.inl (nVers G N t : Int), C) := by
  have hL := h.1.1
  obtain ⟨VA, PA, LE, AA, np, na, hH, hK, hc⟩ := h.atN h8 ht
  unfold nVers
  rcases hc with ⟨c1, c2⟩ | ⟨p, p1, p2, p3⟩
  · unfold fX11_versions
    rw [if_pos hL.o, calx_of (X11_titleOf_in hL ht), drf_some, if_pos (hL.to ht), bnd_eq, bnd_eq, c2, opt_none, if_pos c1]
    rfl
  · obtain ⟨f1, f2, f3, f4, f5, f6⟩ := hH.2.2.2.2.2.1 p p1
    unfold fX11_versions
    rw [if_pos hL.o, calx_of (X11_titleOf_in hL ht), drf_some, if_pos (hL.to ht), bnd_eq, bnd_eq, p3, opt_some, if_pos f2.1, bnd_eq, f2.2.1, drf_some, if_pos f2.2.2.1, cal_of (AL_size_ f2.2.2), if_neg (by omega), p2]
theorem vofF_at (G : Md) (N t j : Nat) : vofF G N t j = if j < nVers G N t then (vsl G (G.2 6 t) N j : Int) else -1 := by
  unfold vofF nVers
  by_cases c : G.2 6 t = -1
  · rw [if_pos c, if_pos c, if_neg (Nat.not_lt_zero _)]
  · rw [if_neg c, if_neg c, vin_ord]
    by_cases d : j < cnt (onp G (G.2 6 t)) N
    · rw [if_pos d, if_pos ⟨by omega, by omega⟩]; rfl
    · rw [if_neg d, if_neg (by omega)]
theorem Q_verAt (h : RR b kc G C) (h8 : G.1 8 = (N : Int)) (ht : t < 24) {j : Nat} (hj : j < nVers G N t) : fX11_versionAt b (t : Int) (j : Int) C = some (.inl (vofF G N t j), C) := by
  have hL := h.1.1
  obtain ⟨VA, PA, LE, AA, np, na, hH, hK, hc⟩ := h.atN h8 ht
  rw [vofF_at, if_pos hj]
  unfold nVers at hj
  rcases hc with ⟨c1, c2⟩ | ⟨p, p1, p2, p3⟩
  · rw [if_pos c1] at hj
    exact absurd hj (Nat.not_lt_zero _)
  · rw [if_neg (by omega)] at hj
    rw [p2] at hj ⊢
    obtain ⟨f1, f2, f3, f4, f5, f6⟩ := hH.2.2.2.2.2.1 p p1
    have ho := (ord_all G (p : Int) N).1 j hj
    obtain ⟨v1, v2⟩ := hH.2.2.2.2.1 (vsl G (p : Int) N j) ho.1
    unfold fX11_versionAt
    rw [if_pos hL.o, calx_of (X11_titleOf_in hL ht), drf_some, if_pos (hL.to ht), bnd_eq, bnd_eq, p3, opt_some, if_pos f2.1, cal_of (X3_versionAtIndex_in f2 (i := j) hj v1.1)]
    dsimp only
    rw [opt_some, if_pos v1.1, v1.2.1]
theorem Q_verNo (h : RR b kc G C) (h8 : G.1 8 = (N : Int)) (ht : t < 24) {j : Nat} (hj : nVers G N t ≤ j) (hj2 : j < 1000) : fX11_versionAt b (t : Int) (j : Int) C = some (.inr 2, cBump C) := by
  have hL := h.1.1
  obtain ⟨VA, PA, LE, AA, np, na, hH, hK, hc⟩ := h.atN h8 ht
  unfold nVers at hj
  rcases hc with ⟨c1, c2⟩ | ⟨p, p1, p2, p3⟩
  · unfold fX11_versionAt
    rw [if_pos hL.o, calx_of (X11_titleOf_in hL ht), drf_some, if_pos (hL.to ht), bnd_eq, bnd_eq, c2, opt_none]
    dsimp only
    rw [opt_none]
  · rw [if_neg (by omega)] at hj
    rw [p2] at hj
    obtain ⟨f1, f2, f3, f4, f5, f6⟩ := hH.2.2.2.2.2.1 p p1
    unfold fX11_versionAt
    rw [if_pos hL.o, calx_of (X11_titleOf_in hL ht), drf_some, if_pos (hL.to ht), bnd_eq, bnd_eq, p3, opt_some, if_pos f2.1, cal_of (X3_versionAtIndex_out f2 (x := (j : Int)) ⟨by omega, by omega⟩ (by omega))]
    dsimp only
    rw [opt_none]
theorem Q_tok0 (h : RR b kc G C) (h8 : G.1 8 = (N : Int)) (ht : t < 24) (hp : G.2 6 t ≠ -1) : fX11_tokenAt b (t : Int) 0 C = some (.inl (tx G (prAt G N t).toNat 0), C) := by
  have hL := h.1.1
  obtain ⟨VA, PA, LE, AA, np, na, hH, hK, hc⟩ := h.atN h8 ht
  rcases hc with ⟨c1, c2⟩ | ⟨p, p1, p2, p3⟩
  · exact absurd c1 hp
  · obtain ⟨f1, f2, f3, f4, f5, f6⟩ := hH.2.2.2.2.2.1 p p1
    obtain ⟨v, v1, v2, v3, v4⟩ := hH.pres p1
    obtain ⟨w1, w2⟩ := hH.2.2.2.2.1 v v1
    have hT := w1.2.2.2.2.1
    have htl := tl_eq hH.1.1 v1
    have tl30 := (hH.1.1.2.2.2.2 v v1).1
    have epv : prAt G N t = (v : Int) := by
      unfold prAt
      rw [if_neg hp, p2]
      exact v2
    rw [epv, Int.toNat_natCast]
    unfold fX11_tokenAt
    have rb := X11_refuseBelowZero_in (b := b) (C := C) (x := ((0 : Nat) : Int)) ⟨by decide, by decide⟩ (by decide)
    have cd := hT.code (k := 0) (by omega)
    rw [show ((0 : Nat) : Int) = 0 from rfl] at rb cd
    rw [if_pos hL.o, calx_of (X11_pageOf_in hL ht p3), if_pos hL.o, calx_of rb, drf_some, if_pos f2.1, bnd_eq, v4, drf_some, if_pos w1.1, bnd_eq, w1.2.2.2.1, drf_some, if_pos hT.isO_, cal_of cd]
/-- a title's rendering, on both sides -/
theorem RR.rg (h : RR b kc G C) (ht : t < 24) : ∃ r lk ct rd cd us, RG b G C t r lk ct rd cd us := h.2.2.2.2.2.2.2 t ht
theorem Q_shown (h : RR b kc G C) (ht : t < 24) (hp : G.2 6 t ≠ -1) {r : List Int} {lk ct rd cd us : Nat} (hg : RG b G C t r lk ct rd cd us) {j : Nat} (hj : j < 100000) : fX11_shown b (t : Int) (j : Int) C = some (.inl (if j < r.length then r.getD j 0 else -1), C) := by
  have hL := h.1.1
  obtain ⟨VA, PA, LE, AA, nv, np, na, hH, hK, hc⟩ := h.at_ ht
  rcases hc with ⟨c1, c2⟩ | ⟨p, p1, p2, p3⟩
  · exact absurd c1 hp
  · obtain ⟨g1, g2, g3, g4, g5, g6, g7⟩ := hg
    have r150 := g3.2.2.2.1.1
    unfold fX11_shown
    rw [if_pos hL.o, calx_of (X11_pageOf_in hL ht p3), if_pos hL.o, calx_of (X11_refuseBelowZero_in (x := (j : Int)) ⟨by omega, by omega⟩ (by omega)), if_pos hL.o, bnd_eq, hL.r1, drf_some, if_pos ⟨hL.ot, by rw [hL.nt]; exact inR_n ht (by decide)⟩, bnd_eq, hL.tt ht, drf_some, if_pos (hL.to ht), bnd_eq, hL.tr ht, drf_some, if_pos (hL.ro ht), bnd_eq, hL.rr ht, drf_some, if_pos g3.ob]
    by_cases cj : j < r.length
    · rw [cal_of (X5_at_ g3 cj), if_pos cj]
    · rw [cal_of (X5_at_out (len := (r.length : Int)) g3.ob g3.2.1 (Or.inr (by omega)) (by omega) (by omega) (by omega) (by omega)), if_neg cj]
theorem Q_members (h : RR b kc G C) {c : Nat} (hc : c < 8) : fX11_members b (c : Int) C = some (.inl (bitsN (fun t => (ctF G t).testBit c) 24 : Int), C) := by
  have hL := h.1.1
  have h704 : ∀ t, t < 24 → cI C 704 (b + 13 + 6 * t + 1) = (ctF G t : Int) ∧ ctF G t < 256 := fun t ht => by
    obtain ⟨r, lk, ct, rd, cd, us, q⟩ := h.rg ht
    have e : ctF G t = ct := by unfold ctF; rw [q.2.2.2.2.1]; rfl
    rw [e]
    exact q.2.2.2.1.2.1
  unfold fX11_members
  rw [bnd_eq, w32_n (by omega), if_neg (by omega), if_pos (by rw [show w32 8 = 8 from rfl]; omega), if_pos hL.o, bnd_eq, hL.r1, cal_of (X11_membersOf_ hL (ct := ctF G) h704 hc)]
theorem Q_linked0 (h : RR b kc G C) (ht : t < 24) {r : List Int} {lk ct rd cd us : Nat} (hg : RG b G C t r lk ct rd cd us) : fX11_linked b (t : Int) 0 C = some (.inl (lk : Int), C) := by
  have hL := h.1.1
  obtain ⟨g1, g2, g3, g4, g5, g6, g7⟩ := hg
  unfold fX11_linked
  rw [if_pos hL.o, calx_of (X11_titleOf_in hL ht), if_pos (by decide), drf_some, if_pos (hL.to ht), bnd_eq, hL.tr ht, drf_some, if_pos (hL.ro ht), g4.1.1]
theorem Q_linked2 (h : RR b kc G C) (ht : t < 24) {r : List Int} {lk ct rd cd us : Nat} (hg : RG b G C t r lk ct rd cd us) : fX11_linked b (t : Int) 2 C = some (.inl (rd : Int), C) := by
  have hL := h.1.1
  obtain ⟨g1, g2, g3, g4, g5, g6, g7⟩ := hg
  unfold fX11_linked
  rw [if_pos hL.o, calx_of (X11_titleOf_in hL ht), if_neg (by decide), if_neg (by decide), if_pos (by decide), drf_some, if_pos (hL.to ht), bnd_eq, hL.tr ht, drf_some, if_pos (hL.ro ht), g4.2.2.1.1]
theorem Q_queued (h : RR b kc G C) : fX11_queued b C = some ((cnt (wqC b C) 24 : Int), C) := by
  have hL := h.1.1
  have hc24 := cnt_le (wqC b C) 24
  unfold fX11_queued
  rw [bnd_eq]
  refine lpn_rule (P := fun mm (L : Int → Int → Cd → Option (Int × Cd)) => ∀ i, i ≤ 24 → 24 - i < mm → L (cnt (wqC b C) i : Int) (i : Int) C = some ((cnt (wqC b C) 24 : Int), C)) (fun i _ h => absurd h (Nat.not_lt_zero _)) (fun mm L hLL i hi hm => ?_) FU 0 (by decide) (by unfold FU; omega)
  rw [if_pos hL.o, bnd_eq, hL.r1, drf_some, if_pos hL.ot, hL.nt]
  rcases Nat.lt_or_ge i 24 with hlt | hge
  · have q := hLL (i + 1) (by omega) (by omega)
    rw [cnt_succ] at q
    rw [if_neg (by rw [show w32 ((24 : Nat) : Int) = 24 from rfl, w32_n (by omega)]; omega), if_pos hL.o, bnd_eq, drf_some, hL.nt, if_pos ⟨hL.ot, inR_n hlt (by decide)⟩, bnd_eq, hL.tt hlt, drf_some, if_pos (hL.to hlt), cal_of (h.waits_ hlt), bnd_eq]
    by_cases z : wqC b C i = true
    · rw [if_pos z] at q
      rw [if_pos z, if_neg (by decide)]
      exact q
    · rw [if_neg z] at q
      rw [if_neg z, if_pos (by decide)]
      exact q
  · have e : i = 24 := by omega
    subst e
    rw [if_pos (by decide)]
theorem Q_stale (h : RR b kc G C) (ht : t < 24) (hp : G.2 6 t ≠ -1) : fX11_isStale b (t : Int) C = some (.inl (if wqC b C t = true then 1 else 0), C) := by
  have hL := h.1.1
  obtain ⟨VA, PA, LE, AA, nv, np, na, hH, hK, hc⟩ := h.at_ ht
  rcases hc with ⟨c1, c2⟩ | ⟨p, p1, p2, p3⟩
  · exact absurd c1 hp
  · unfold fX11_isStale
    rw [if_pos hL.o, calx_of (X11_pageOf_in hL ht p3), if_pos hL.o, bnd_eq, hL.r1, drf_some, if_pos ⟨hL.ot, by rw [hL.nt]; exact inR_n ht (by decide)⟩, bnd_eq, hL.tt ht, drf_some, if_pos (hL.to ht), cal_of (h.waits_ ht)]
    unfold retZX
    by_cases z : wqC b C t = true
    · rw [if_pos z, if_pos (Or.inr (by decide))]
    · rw [if_neg z, if_pos (Or.inl (by decide))]
/-- a call's answer, where the reference's is known -/
theorem RB.sc {G' : Md} (h : RB kc G) (s : SmG G G') : RB kc G' := by
  unfold RB at h ⊢
  rw [s.1 5 (by decide) (by decide), s.1 13 (by decide) (by decide), s.1 22 (by decide) (by decide)]
  exact h
theorem ask_of {code : Nat → Int} {X : Option ((Int ⊕ Nat) × Cd)} {Y : Option (Int × Md)} {y : Int} {G' : Md} (h : RR b kc G C) (hc : CallE b kc C code X Y) (hx : SX C X) (hY : Y = some (y, G')) (hs : SmG G G') (h36 : G'.1 36 = 0) (hcode : ∀ e, e < 3 → code e ≠ 0) : ∃ C', X = some (.inl y, C') ∧ RR b kc G' C' ∧ Sz C C' := by
  obtain ⟨M', C', y', e1, e2, e3, e4⟩ := hc
  rw [hY] at e1
  cases e1
  rcases e4 with ⟨e4, e5⟩ | ⟨e, e4, e5, e6⟩
  · exact ⟨C', e4, e2.rb (h.2.2.2.1.sc hs), hx _ _ e4⟩
  · exact absurd (e5.symm.trans h36) (hcode e e6)
end ASK
