/-! moveTree IN BOTH WIKIS -/
section MVT
variable {b kc N np fr to : Nat} {E : Rw} {G : Md} {C : Cd} {T : Nat → List Nat} {q : Nat → Nat}
theorem leF_same {M M' : Md} {nv Gs : Nat} (h6 : M'.2 6 = M.2 6) (h9 : ∀ k, (9 ≤ k ∧ k ≤ 12) → M'.2 k = M.2 k) : leF M' nv Gs = leF M nv Gs := by
  funext s
  unfold leF
  rw [h6, lpF_same h9]
theorem cnt_tail {p : Nat → Bool} (n : Nat) : ∀ m, (∀ k, n ≤ k → k < n + m → p k = false) → cnt p (n + m) = cnt p n := by
  intro m
  induction m with
  | zero => intro _; rfl
  | succ m ih =>
    intro h
    rw [show n + (m + 1) = (n + m) + 1 from rfl, cnt_succ, h (n + m) (by omega) (by omega), ite_ff, Nat.add_zero]
    exact ih (fun k a c => h k a (by omega))
theorem had_0 (M : Md) (fr : Nat) : hadF M fr = 0 ↔ ∀ k, k < 4 → M.2 6 (4 * fr + k) = -1 := by
  constructor
  · intro z k hk
    have y := hadF_bit M fr hk
    rw [z, Nat.zero_testBit] at y
    exact Classical.byContradiction (fun c => absurd (decide_eq_true c) (by rw [← y]; decide))
  · intro z
    refine Nat.eq_of_testBit_eq (fun i => ?_)
    unfold hadF
    rw [Nat.zero_testBit, bitsN_bit]
    by_cases c : i < 4
    · rw [decide_eq_false (p := M.2 6 (4 * fr + i) ≠ -1) (fun c2 => c2 (z i c)), Bool.and_false]
    · rw [decide_eq_false c, Bool.false_and]
/-- the reference asks -/
theorem mv_ask (hL : LW N np T E G) (hpr : ∀ s, s < 8 → G.2 6 s ≠ -1 → prs G (G.2 6 s) N ≠ -1) (hf : fr + to = 1) : ∃ M6 Gs, MO oRes rRes (mSet G 36 0) M6 ∧ (∀ v, v < 24 → Gs.testBit v = (decide (v / 4 = fr) && (hadF G fr).testBit (v % 4))) ∧ fX12_moveTree (fr : Int) (to : Int) G = mtQ (fr : Int) (to : Int) (hadF G fr : Int) (if alN (canF (mSet G 36 0) fr to) 4 = true then 1 else 0) (cnt (leF (mSet G 36 0) N Gs) 24 : Int) M6 := by
  have hL0 := hL.sc (SmG.s36 G 0)
  have n32 := hL.1.1.2.1
  have e36 : (mSet G 36 0).1 36 = 0 := mS1 _ _ _
  have hhad : hadF (mSet G 36 0) fr = hadF G fr := rfl
  have hGb : ∀ v, v < 24 → (bitsN (fun v => decide (v / 4 = fr) && (hadF G fr).testBit (v % 4)) 24).testBit v = (decide (v / 4 = fr) && (hadF G fr).testBit (v % 4)) := fun v hv => by rw [bitsN_bit, decide_eq_true hv, Bool.true_and]
  obtain ⟨M6, o6, e6⟩ := mtC_ (M := mSet G 36 0) (nv := N) (fr := fr) (to := to) (had := hadF G fr) (G := bitsN (fun v => decide (v / 4 = fr) && (hadF G fr).testBit (v % 4)) 24) (can := if alN (canF (mSet G 36 0) fr to) 4 = true then 1 else 0) hL0.vi hL0.ti e36 (fun t ht => by
    have sx := hL.six ht
    by_cases c : G.2 6 t = -1
    · exact Or.inl c
    · have t8 : t < 8 := Decidable.byContradiction (fun z => c (hL.2.2.2.1.2.2 t (by omega) ht))
      have np_ := hpr t t8 c
      have rg := prs_rng G (G.2 6 t) N
      have ep : ((G.2 6 t).toNat : Int) = G.2 6 t := by omega
      refine Or.inr ⟨(G.2 6 t).toNat, (prs G (G.2 6 t) N).toNat, ep.symm, by omega, by omega, ?_⟩
      rw [ep, prs_same (sc36 G 0).vs]
      omega) (by omega) (by omega) (hadF_lt _ _) hGb
  refine ⟨M6, _, o6, hGb, ?_⟩
  have p3 : ∀ t, t < 24 → (mSet G 36 0).2 3 t = 0 := fun t ht => hL.2.2.2.1.2.1 t ht
  have p2 : (mSet G 36 0).1 2 = 0 := (mS2 G _ (by decide)).trans hL.2.2.2.1.1
  have ee := mtE_ (M := mSet G 36 0) (fr := fr) (to := to) (by omega) (by omega) e36 (by rw [p2]; decide) (fun t ht => by rw [p3 t ht]; decide) (fun t ht => by have := hL.six ht; exact ⟨this.1, by have := this.2; show G.2 6 t < 200; omega⟩)
  rw [hhad, e6] at ee
  have eY : fX12_moveTree (fr : Int) (to : Int) G = mtA (fr : Int) (to : Int) 0 G := by
    rw [moveTree_def]
    rcases X12_in_ (x := (fr : Int)) (lo := 0) (hi := 5) G ⟨by omega, by omega⟩ (by decide) (by decide) with ⟨e, p⟩ | ⟨e, p⟩
    · rcases X12_in_ (x := (to : Int)) (lo := 0) (hi := 5) G ⟨by omega, by omega⟩ (by decide) (by decide) with ⟨e2, p2⟩ | ⟨e2, p2⟩
      · rw [cal_of e, bnd_eq, bnd_eq, if_neg (by decide), cal_of e2, if_neg (by decide)]
      · exact absurd ⟨by omega, by omega⟩ p2
    · exact absurd ⟨by omega, by omega⟩ p
  rw [eY]
  unfold mtA
  rw [bnd_eq, bnd_eq]
  exact ee
theorem mv_can (hL : LW N np T E G) (hf : fr + to = 1) : alN (canF (mSet G 36 0) fr to) 4 = true ↔ hadF G to = 0 := by
  have p3 : ∀ t, t < 24 → (mSet G 36 0).2 3 t = 0 := fun t ht => hL.2.2.2.1.2.1 t ht
  have p2 : (mSet G 36 0).1 2 = 0 := (mS2 G _ (by decide)).trans hL.2.2.2.1.1
  rw [alN_iff, had_0]
  constructor
  · intro z k hk
    have y := z k hk
    unfold canF at y
    rw [Bool.and_eq_true] at y
    exact of_decide_eq_true y.1
  · intro z k hk
    unfold canF
    rw [p2, p3 _ (by omega), p3 _ (by omega), decide_eq_true (show (mSet G 36 0).2 6 (4 * to + k) = -1 from z k hk)]
    rfl
theorem RR.hpr (h : RR b kc G C) (hL : LW N np T E G) : ∀ s, s < 8 → G.2 6 s ≠ -1 → prs G (G.2 6 s) N ≠ -1 := fun s hs hp => by
  have pr := h.prN hL.2.2.2.2.2.1 (show s < 24 by omega) hp
  unfold prAt at pr
  rw [if_neg hp] at pr
  exact pr
/-- what the class says of two trees, refused -/
theorem R_treeNo (h : RR b kc G C) (hkc : kc ≤ 600) (hL : LW N np T E G) (hf : fr + to = 1) (hn : ¬ (hadF G fr ≠ 0 ∧ hadF G to = 0)) : ∃ C' G', fX11_moveTree b (fr : Int) (to : Int) C = some (.inr 1, C') ∧ RR b (kc + 1) G' C' ∧ RmL b C C' ∧ LW N np T E G' := by
  obtain ⟨M6, Gs, o6, hGb, e⟩ := mv_ask hL (h.hpr hL) hf
  have n32 := hL.1.1.2.1
  have m36 : M6.1 36 = 0 := (o6.1 36 (by decide)).trans (mS1 _ _ _)
  have m8 : M6.1 8 = (N : Int) := (o6.1 8 (by decide)).trans ((mS2 G _ (by decide)).trans hL.2.2.2.2.2.1)
  have hmn := cnt_le (leF (mSet G 36 0) N Gs) 24
  have q := mtQ_no (fr := fr) (to := to) (had := hadF G fr) (many := cnt (leF (mSet G 36 0) N Gs) 24) (nv := N) (can := if alN (canF (mSet G 36 0) fr to) 4 = true then 1 else 0) m36 m8 (by omega) hmn (hadF_lt _ _) (by
    by_cases c : alN (canF (mSet G 36 0) fr to) 4 = true
    · rw [if_pos c]; exact Or.inr rfl
    · rw [if_neg c]; exact Or.inl rfl) (by
    by_cases c : alN (canF (mSet G 36 0) fr to) 4 = true
    · by_cases d : hadF G fr = 0
      · exact Or.inr (Or.inl d)
      · exact absurd ⟨d, (mv_can hL hf).mp c⟩ hn
    · exact Or.inl (if_neg c))
  have hY := e.trans q
  obtain ⟨C', x, e1, e2, e3, e4, e5⟩ := deed_no (call_moveTree h hkc (x := (fr : Int)) (y := (to : Int)) ⟨by omega, by omega⟩ ⟨by omega, by omega⟩) hY (by rw [mS1]; decide)
  have e6 := ex_fX11_moveTree b (fr : Int) (to : Int) C x C' e1
  rw [mS1] at e2
  have e7 : x = 1 := by
    simp only [List.mem_cons, List.not_mem_nil, or_false] at e6
    rcases e6 with z | z
    · exact z
    · subst z; exact absurd e2 (by decide)
  subst e7
  exact ⟨C', _, e1, e4, e5, hL.sc (((SmG.s36 G 0).tr (MO.smR o6)).tr (SmG.s36 M6 2))⟩
/-- a tree moved, in both wikis -/
theorem R_tree (h : RR b kc G C) (hkc : kc ≤ 600) (hL : LW N np T E G) (hN : N < 24) (hf : fr + to = 1) (hc : hadF G fr ≠ 0 ∧ hadF G to = 0) (h3 : E 0 3 + 64 < 100000) : ∃ (C' : Cd) (G' : Md) (E8 E9 : Rw) (c np1 : Nat) (T1 : Nat → List Nat), fX11_moveTree b (fr : Int) (to : Int) C = some (.inl (c : Int), C') ∧ RR b (kc + 1) G' C' ∧ RmL b C C' ∧ fW_isMoved_88 b (fr : Int) (hadF G fr : Int) 1 E C q = fW_isMoved_405 b (fr : Int) 1 (c : Int) E8 C q ∧ fW_settles E8 = some ((), E9) ∧ LW (N + c) np1 T1 E9 G' ∧ E 0 3 ≤ E9 0 3 ∧ E9 0 3 ≤ E 0 3 + 60 := by
  have clk := h.2.2.2.1.1
  have n32 := hL.1.1.2.1
  have hpr0 := h.hpr hL
  obtain ⟨M6, Gs, o6, hGb, eA⟩ := mv_ask hL hpr0 hf
  have sm6 := (SmG.s36 G 0).tr (MO.smR o6)
  have sm0 := sm6.tr (SmG.s36 M6 0)
  have m36 : M6.1 36 = 0 := (o6.1 36 (by decide)).trans (mS1 _ _ _)
  have m8 : M6.1 8 = (N : Int) := (o6.1 8 (by decide)).trans ((mS2 G _ (by decide)).trans hL.2.2.2.2.2.1)
  have hmn := cnt_le (leF (mSet G 36 0) N Gs) 24
  have hpt : ∀ k, k < 4 → G.2 6 (4 * to + k) = -1 := (had_0 G to).mp hc.2
  rw [if_pos ((mv_can hL hf).mpr hc.2), mtQ_yes m36 m8 (by omega) hc.1 (hadF_lt _ _)] at eA
  have g0 : (mSet M6 36 0).1 36 = 0 := mS1 _ _ _
  have le0 : leF (mSet M6 36 0) N Gs = leF (mSet G 36 0) N Gs := leF_same (o6.2 6 (by decide)) (fun k hk => o6.2 k (by intro z; omega))
  -- injective
  have inj0 : ∀ s u, s < 24 → u < 24 → G.2 6 s = G.2 6 u → G.2 6 s = -1 ∨ s = u := by
    obtain ⟨VA, PA, LE, AA, np', na, hH, hK⟩ := h.nN hL.2.2.2.2.2.1
    exact fun s u hs hu e => hH.2.2.2.1.2 s u hs hu e
  have hL0 := hL.sc sm0
  have hq0 : StQ (mSet M6 36 0) := (hL.sto h).of (sm0.2 26 (by decide) (by decide)) (sm0.2 28 (by decide) (by decide)) (sm0.1 22 (by decide) (by decide))
  have h240 : ∀ c, c < 8 → (mSet M6 36 0).2 24 c ≤ (mSet M6 36 0).1 22 := fun c hc => by
    rw [sm0.2 24 (by decide) (by decide), sm0.1 22 (by decide) (by decide)]
    exact h.h24 c hc
  have z6 : (mSet M6 36 0).2 6 = G.2 6 := sm0.2 6 (by decide) (by decide)
  have z5 : (mSet M6 36 0).1 5 = G.1 5 := sm0.1 5 (by decide) (by decide)
  have z11 : (mSet M6 36 0).2 11 = G.2 11 := sm0.2 11 (by decide) (by decide)
  have z12 : (mSet M6 36 0).2 12 = G.2 12 := sm0.2 12 (by decide) (by decide)
  have eG : mtG (fr : Int) (to : Int) (hadF G fr : Int) (cnt (leF (mSet G 36 0) N Gs) 24 : Int) 0 M6 = lpn zM1 (mt1 (fr : Int) (to : Int) (hadF G fr : Int) (cnt (leF (mSet G 36 0) N Gs) 24 : Int)) FU 0 (mSet M6 36 0) := by
    unfold mtG
    rw [bnd_eq, mS1, if_pos (by decide), bnd_eq]
  generalize mSet M6 36 0 = G0 at *
  generalize hmany : cnt (leF (mSet G 36 0) N Gs) 24 = many at *
  obtain ⟨E4, G4, ⟨hL4, hq4, _⟩, m4, w4, h64, ⟨g1, g2⟩, hcnt4, e41, e42⟩ := LW.brought (b := b) (Gs := Gs) (had := hadF G fr) (many := (many : Int)) (C := C) (q := q) hf (fun k hk => by rw [z6]; exact hpt k hk) (by omega) hL0 hq0 h240
  obtain ⟨G5, s5, st5⟩ := hL4.st_ hq4.1
  obtain ⟨E5, t5, hL5, e51, e52⟩ := hL4.se_ st5 hq4.2 hq4.1 (by omega)
  obtain ⟨t1, t2, t3, t4, t6⟩ := st5
  have y6 : G5.2 6 = G4.2 6 := t4 6 (by decide) (by decide)
  have y11 : G5.2 11 = G.2 11 := (t4 11 (by decide) (by decide)).trans ((g2 11 (by decide) (by decide) (by decide) (by decide)).trans z11)
  have y12 : G5.2 12 = G.2 12 := (t4 12 (by decide) (by decide)).trans ((g2 12 (by decide) (by decide) (by decide) (by decide)).trans z12)
  have y5 : G5.1 5 = G.1 5 := (t1 5 (by decide)).trans ((g1 5 (by decide)).trans z5)
  have hq5 : StQ G5 := by
    refine ⟨fun u hu => ?_, fun u hu => ?_⟩
    · rw [(t6 u hu).1]
      have := prAt_rng G4 N u
      omega
    · rw [t4 28 (by decide) (by decide)]
      have := hq4.2 u hu
      omega
  have f6 : ∀ s, s < 8 → (s / 4 = to ∧ G5.2 6 s = G.2 6 (4 * fr + s % 4)) ∨ (s / 4 = fr ∧ G5.2 6 s = -1) := fun s hs => by
    rw [y6, h64 s (by omega)]
    by_cases c : s / 4 = to
    · rw [if_pos ⟨c, by omega⟩, z6]
      exact Or.inl ⟨c, rfl⟩
    · rw [if_neg (fun z => c z.1), if_pos ⟨by omega, by omega⟩]
      exact Or.inr ⟨by omega, rfl⟩
  have inj5 : ∀ s u, s < 8 → u < 8 → G5.2 6 s = G5.2 6 u → G5.2 6 s = -1 ∨ s = u := fun s u hs hu e => by
    rcases f6 s hs with ⟨a1, a2⟩ | ⟨a1, a2⟩
    · rcases f6 u hu with ⟨b1, b2⟩ | ⟨b1, b2⟩
      · rw [a2, b2] at e
        rcases inj0 _ _ (by omega) (by omega) e with y | y
        · exact Or.inl (a2.trans y)
        · exact Or.inr (by omega)
      · exact Or.inl (e.trans b2)
    · exact Or.inl a2
  have hpr5 : ∀ s, s < 8 → G5.2 6 s ≠ -1 → prs G5 (G5.2 6 s) N ≠ -1 := fun s hs hp => by
    have te : TmE G G5 N := fun v _ => ⟨by rw [y11], by rw [y12]⟩
    rcases f6 s hs with ⟨a1, a2⟩ | ⟨a1, a2⟩
    · rw [prs_e te _ _ (Nat.le_refl _), a2]
      exact hpr0 _ (by omega) (by rw [← a2]; exact hp)
    · exact absurd a2 hp
  obtain ⟨E8, G8, c, T8, ⟨hL8, hq8⟩, m8', w8, ⟨hcc, h68⟩, hT8, _, ⟨h368, hE38⟩, hc5⟩ := hL5.written (b := b) (many := (many : Int)) (C := C) (q := q) (had := hadF G fr) (Gs := Gs) hf (hadF_lt _ _) hN (by rw [y5]; omega) hGb inj5 hpr5 hq5 8 (Nat.le_refl _)
  obtain ⟨G9, s9, st9⟩ := hL8.st_ hq8.1
  obtain ⟨E9, t9, hL9, e91, e92⟩ := hL8.se_ st9 hq8.2 hq8.1 (by omega)
  -- how many
  have cm : c = many := by
    have a1 : cnt (leF G5 N Gs) 24 = cnt (leF G5 N Gs) 8 := cnt_tail 8 16 (fun k a d => by
      unfold leF
      rw [hL5.2.2.2.1.2.2 k a (by omega), decide_eq_false (fun z => z rfl), Bool.false_and])
    have a2 : leF G5 N Gs = leF G4 N Gs := leF_same y6 (fun k hk => t4 k (by omega) (by omega))
    rw [hcc, ← a1, a2, hcnt4, le0, hmany]
  -- the reference
  obtain ⟨F, hF⟩ : ∃ F, FU = F + 25 := ⟨FU - 25, by unfold FU; omega⟩
  obtain ⟨F4, hF4⟩ : ∃ F, FU = F + 5 := ⟨FU - 5, by unfold FU; omega⟩
  obtain ⟨F9, hF9⟩ : ∃ F, FU = F + 9 := ⟨FU - 9, by unfold FU; omega⟩
  have hY : fX12_moveTree (fr : Int) (to : Int) G = some ((many : Int), G9) := by
    have x1 : lpn zM1 (mt1 (fr : Int) (to : Int) (hadF G fr : Int) (many : Int)) FU 0 G0 = lpn zM1 (mt1 (fr : Int) (to : Int) (hadF G fr : Int) (many : Int)) (F4 + 1) ((4 : Nat) : Int) G4 := by
      rw [hF4]; exact m4 (F4 + 1)
    have x2 : lpn zM1 (mt2 (fr : Int) (to : Int) (hadF G fr : Int) (many : Int)) FU 0 G5 = lpn zM1 (mt2 (fr : Int) (to : Int) (hadF G fr : Int) (many : Int)) (F + 1) ((24 : Nat) : Int) G8 := by
      have r := mt2_run (fr := fr) (to := to) (had := hadF G fr) (many := (many : Int)) (G := G8) 16 8 (by decide) (fun s a d => hL8.2.2.2.1.2.2 s a (by omega)) (F + 1)
      rw [hF]
      exact (m8' (F + 1 + 16)).trans r
    have y1 : mt1 (fr : Int) (to : Int) (hadF G fr : Int) (many : Int) (lpn zM1 (mt1 (fr : Int) (to : Int) (hadF G fr : Int) (many : Int)) F4) ((4 : Nat) : Int) G4 = lpn zM1 (mt2 (fr : Int) (to : Int) (hadF G fr : Int) (many : Int)) FU 0 G5 := by
      unfold mt1
      rw [if_pos (by decide), cal_of s5, bnd_eq]
    have y2 : mt2 (fr : Int) (to : Int) (hadF G fr : Int) (many : Int) (lpn zM1 (mt2 (fr : Int) (to : Int) (hadF G fr : Int) (many : Int)) F) ((24 : Nat) : Int) G8 = some ((many : Int), G9) := by
      unfold mt2
      rw [if_pos (by decide), cal_of s9]
    rw [eA, eG, x1, lpn_succ, y1, x2, lpn_succ, y2]
  have h36 : G9.1 36 = 0 := by
    rw [st9.1 36 (by decide), h368, t1 36 (by decide), g1 36 (by decide)]
    exact g0
  obtain ⟨C', c1, c2, c3⟩ := deed_of (call_moveTree h hkc (x := (fr : Int)) (y := (to : Int)) ⟨by omega, by omega⟩ ⟨by omega, by omega⟩) hY h36 cd2_ne
  refine ⟨C', G9, E8, E9, c, np, T8, by rw [cm]; exact c1, c2, c3, ?_, t9, hL9, by omega, by omega⟩
  -- the law
  have x1 : lpn zW1 (mv0B b (fr : Int) (hadF G fr : Int)) FU 0 E C q = lpn zW1 (mv0B b (fr : Int) (hadF G fr : Int)) (F4 + 1) ((4 : Nat) : Int) E4 C q := by
    rw [hF4]; exact w4 (F4 + 1)
  have x2 : lpn zW2 (mv1B b (fr : Int) (hadF G fr : Int)) FU 0 0 E5 C q = lpn zW2 (mv1B b (fr : Int) (hadF G fr : Int)) (F9 + 1) (c : Int) ((8 : Nat) : Int) E8 C q := by
    rw [hF9]; exact w8 (F9 + 1)
  unfold fW_isMoved_88
  rw [bnd_eq]
  show lpn zW1 (mv0B b (fr : Int) (hadF G fr : Int)) FU 0 E C q = _
  rw [x1, lpn_succ]
  show fW_isMoved_93 b (fr : Int) (hadF G fr : Int) 1 _ ((4 : Nat) : Int) E4 C q = _
  unfold fW_isMoved_93
  rw [bnd_eq, if_pos (by decide)]
  show fW_isMoved_170 b (fr : Int) (hadF G fr : Int) 1 E4 C q = _
  unfold fW_isMoved_170
  rw [cal1_of t5, bnd_eq]
  show lpn zW2 (mv1B b (fr : Int) (hadF G fr : Int)) FU 0 0 E5 C q = _
  rw [x2, lpn_succ]
  show fW_isMoved_186 b (fr : Int) (hadF G fr : Int) 1 _ (c : Int) ((8 : Nat) : Int) E8 C q = _
  unfold fW_isMoved_186
  rw [bnd_eq, if_pos (by decide)]
/-- moveTree as the law does it, where the turn's number is 14 -/
theorem D_tree {x17 : Nat} {tt t03 r9 x23 : Int} (h : RR b kc G C) (hkc : kc ≤ 600) (hL : LW N np T E G) (hN : N < 24) (h3 : E 0 3 + 80 < 100000) (hx : x17 < 2147483648) (J : Int → Rw → Cd → (Nat → Nat) → Option (Int × S3)) : DeedO b kc E C (fW_law_1231 b 14 (x17 : Int) tt t03 r9 x23 J E C q) J := by
  have ho := h.1.1.o
  have i0 : inR 0 (wLen 0) := inW 4 wl_0 (by decide) (by decide) (by decide)
  have e00 : E 0 0 = (N : Int) := hL.1.1.1
  have ed : remI (x17 : Int) 2 = ((x17 % 2 : Nat) : Int) := by
    rw [show (2 : Int) = ((2 : Nat) : Int) from rfl, remI_N (by omega) (by omega) (by omega)]
  have l2 : x17 % 2 < 2 := Nat.mod_lt _ (by decide)
  generalize x17 % 2 = fr at *
  obtain ⟨to, hf⟩ : ∃ to, fr + to = 1 := ⟨1 - fr, by omega⟩
  have e1f : 1 - (fr : Int) = (to : Int) := by omega
  have head : fW_law_1231 b 14 (x17 : Int) tt t03 r9 x23 J E C q = cal3 (fW_isMoved b (fr : Int) E C q) fun (r46 : Int) (E47 : Rw) (C48 : Cd) (q49 : (Nat → Nat)) => J r46 E47 C48 q49 := by
    unfold fW_law_1231
    rw [bnd_eq, if_neg (fun z => z rfl), if_pos i0, show ix 0 = 0 from rfl, e00, if_neg (by rw [w32_n (by omega), show w32 24 = 24 from rfl]; omega), ed]
  have m9 := mv_9 (b := b) (C := C) (q := q) hL hf
  by_cases c : hadF G fr ≠ 0 ∧ hadF G to = 0
  · rw [if_pos c] at m9
    obtain ⟨C', G', E8, E9, n, np1, T1, a1, a2, a3, a4, a5, a6, a7, a8⟩ := R_tree (q := q) h hkc hL hN hf c (by omega)
    have dx := dox_5 (v := .inl (n : Int)) (a4 := 0) a1 trivial ho
    rw [show dxv (Sum.inl (n : Int)) = (n : Int) from rfl] at dx
    have mv : fW_isMoved b (fr : Int) E C q = some (1, (E8, C', q)) := by
      rw [m9, a4]
      unfold fW_isMoved_405 fW_isMoved_429 fW_isMoved_437
      rw [e1f, cal1_of dx, bnd_eq, if_neg (by decide)]; (try dsimp only); rw [bnd_eq, if_neg (fun z => z rfl)]
      rfl
    exact ⟨E8, C', q, G', E9, N + n, np1, T1, head.trans (cal3_of mv _), a2, a5, a6, ((IsR.rml a3).mono (by omega) (by omega)), a7, by omega⟩
  · rw [if_neg c] at m9
    obtain ⟨C', G', a1, a2, a3, a4⟩ := R_treeNo h hkc hL hf c
    obtain ⟨E2, s1, s2, s3, s4⟩ := hL.rest h (by omega)
    have dx := dox_5 (v := .inr 1) (a4 := 0) a1 (show 1 < 3 by decide) ho
    rw [show dxv (Sum.inr 1) = -13 from rfl] at dx
    have mv : fW_isMoved b (fr : Int) E C q = some (1, (E2, C', q)) := by
      obtain ⟨F, hF⟩ : ∃ F, FU = F + 1 := ⟨FU - 1, by unfold FU; omega⟩
      rw [m9]
      unfold fW_isMoved_88
      rw [bnd_eq, hF, lpn_succ]
      show fW_isMoved_93 b (fr : Int) (hadF G fr : Int) 0 _ 0 E C q = _
      unfold fW_isMoved_93
      rw [bnd_eq, if_neg (by decide), if_pos (by decide)]
      show fW_isMoved_170 b (fr : Int) (hadF G fr : Int) 0 E C q = _
      unfold fW_isMoved_170
      rw [cal1_of s1, bnd_eq, hF, lpn_succ]
      show fW_isMoved_186 b (fr : Int) (hadF G fr : Int) 0 _ 0 0 E2 C q = _
      unfold fW_isMoved_186
      rw [bnd_eq, if_neg (by decide), if_pos (by decide)]
      show fW_isMoved_405 b (fr : Int) 0 0 E2 C q = _
      unfold fW_isMoved_405 fW_isMoved_429 fW_isMoved_437
      rw [e1f, cal1_of dx, bnd_eq, if_pos (by decide)]; (try dsimp only); rw [bnd_eq, if_neg (fun z => z rfl)]
      rfl
    have hL2 : LW N np T E2 G' := by
      obtain ⟨E3, w1, w2, w3, w4⟩ := a4.rest a2 (by omega)
      rw [s1] at w1
      cases w1
      exact w2
    obtain ⟨E5, w1, w2, w3, w4⟩ := hL2.rest a2 (by omega)
    exact ⟨E2, C', q, G', E5, N, np, T, head.trans (cal3_of mv _), a2, w1, w2, ((IsR.rml a3).mono (by omega) (by omega)), by omega, by omega⟩
end MVT
