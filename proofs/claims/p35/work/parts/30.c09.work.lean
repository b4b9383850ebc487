/-! DEEDS IN BOTH WIKIS: read, work -/
def cBn : Nat → Cd → Cd
  | 0, C => C
  | m + 1, C => cBn m (cB3 C)
section WRK
variable {b kc N np t : Nat} {E E' : Rw} {G G' : Md} {C C' : Cd} {T : Nat → List Nat} {q : Nat → Nat}
theorem cBn_sz (m : Nat) : ∀ C, csz (cBn m C) = csz C + 3 * m ∧ csl (cBn m C) = csl C + 24 * m ∧ cP (cBn m C) = cP C := by
  induction m with
  | zero => intro C; exact ⟨rfl, rfl, rfl⟩
  | succ m ih =>
    intro C
    obtain ⟨h1, h2, h3⟩ := ih (cB3 C)
    have e1 : csz (cB3 C) = csz C + 3 := rfl
    have e2 : csl (cB3 C) = csl C + 8 + 8 + 8 := rfl
    have e3 : cP (cB3 C) = cP C := rfl
    exact ⟨by show csz (cBn m (cB3 C)) = _; omega, by show csl (cBn m (cB3 C)) = _; omega, h3.trans e3⟩
theorem RR.b3 (h : RR b kc G C) : RR b kc G (cB3 C) := ((h.bumpA 8).bumpA 8).bumpA 8
theorem RR.bn (m : Nat) : ∀ {C}, RR b kc G C → RR b kc G (cBn m C) := by
  induction m with
  | zero => intro C h; exact h
  | succ m ih => intro C h; exact ih h.b3
theorem RR.prN (h : RR b kc G C) (h8 : G.1 8 = (N : Int)) (ht : t < 24) (hp : G.2 6 t ≠ -1) : prAt G N t ≠ -1 := by
  obtain ⟨VA, PA, LE, AA, np', na, hH, hK, hc⟩ := h.atN h8 ht
  rcases hc with z | ⟨p, p1, p2, p3⟩
  · exact absurd z.1 hp
  · obtain ⟨v, v1, v2, v3, v4⟩ := hH.pres p1
    unfold prAt
    rw [if_neg hp, p2, v2]
    omega
theorem RR.s36 (h : RR b kc G C) (x : Int) : RR b kc (mSet G 36 x) C := (h.nil (Fp.rf h.1.1.W) (sc36 G x)).rb (h.2.2.2.1.sc (SmG.s36 G x))
/-- a page is rendered in both -/
theorem R_rendAll (h : RR b kc G C') (hk : kc ≤ 900) (hL : LW N np T E G) (ht : t < 8) (hp : G.2 6 t ≠ -1) (h3 : E 0 3 + 8 < 100000) (hC : csz C ≠ 0) (q : Nat → Nat) : ∃ E' G' q' Cv, fW_rendered (t : Int) E C q = some ((), (E', cB3 C, q')) ∧ fX12_render (t : Int) G = some ((), G') ∧ RR b (kc + 1) G' Cv ∧ LW N np T E' G' ∧ G'.1 36 = G.1 36 ∧ (E 0 3 ≤ E' 0 3 ∧ E' 0 3 ≤ E 0 3 + 8) ∧ E' 6 (7 * t + 1) = G'.2 30 t ∧ ∀ j, j ≤ 11 → q' j = q j := by
  have hpr := h.prN hL.2.2.2.2.2.1 (show t < 24 by omega) hp
  obtain ⟨En, G', e1, e2, e3, e4⟩ := R_render h (by omega) hL.2.2.2.2.2.1 hL.1 ht hpr
  obtain ⟨E', q', w1, w2, w3⟩ := W_rendered (q := q) (C := C) hL.1 e1 ht hpr hL.2.2.2.2.2.2 hC
  obtain ⟨_, _, _, z2, _, _⟩ := W_renders3 (q := q) (w := 0) (C := C) (Or.inl rfl) hL.1 e1 (by decide) ht hpr hL.2.2.2.2.2.2 hC
  obtain ⟨y0, y1, y2, y3, y4, _, _⟩ := z2
  obtain ⟨Cv, Mv, acc, v1, v2, v3, _⟩ := h.render (by omega) (show t < 24 by omega) hp
  rw [e2] at v2
  cases v2
  obtain ⟨l1, l2, l3, l4⟩ := hL.rendered h ht h3 ⟨y0.2, y1.2, y2.2, y3.2, y4.2⟩ e3 w2
  refine ⟨E', G', q', Cv, w1, e2, v3, l1, e3.2.2.2.2.2.2.2.2, l2, ?_, w3⟩
  obtain ⟨E1, rfl, _⟩ := w2
  rw [(Rd6_t t (E 0 3) _ E1).2.1]
  exact e3.2.2.2.2.2.2.1.2.2.1.symm
theorem rdX {w : Int} (hL : LW N np T E G) (ht : t < 8) (hp : G.2 6 t ≠ -1) : fX12_read (t : Int) w G = (bnd (fun (M_52 : Md) =>
    if inR (t : Int) (mLen 30) then
    (some (M_52.2 30 (ix (t : Int)), M_52) : Option (Int × Md))
    else none) fun J52 =>
    bnd (fun (M_47 : Md) =>
    cal (fX12_render (t : Int) M_47) fun r5 M4 =>
    J52 M4) fun J47 =>
    if w32 (G.2 27 t) = 0 then
    J47 (mSet G 36 0)
    else
    if ¬ w32 w = 0 then
    J52 (mSet G 36 0)
    else
    cal (fX12_isOld (t : Int) (mSet G 36 0)) fun r7 M6 =>
    if w32 r7 = 0 then
    J52 M6
    else
    J47 M6) := by
  unfold fX12_read
  rw [cal_of (hasP hL ht hp), bnd_eq, if_neg (by decide)]
  dsimp only
  rw [bnd_eq, mS1, if_pos (by decide), if_pos (inM (n := 24) rfl (show t < 24 by omega) (by decide)), ix_n (by omega)]
  rfl
theorem R_readOld {w : Nat} (h : RR b kc G C) (hk : kc ≤ 900) (hL : LW N np T E G) (ht : t < 8) (hw : w < 2) (hp : G.2 6 t ≠ -1) (h27 : G.2 27 t = 1) (hs : w = 1 ∨ ¬ stF G t) : ∃ C' G', fX11_read b (t : Int) (w : Int) C = some (.inl (E 6 (7 * t + 1)), C') ∧ RR b (kc + 1) G' C' ∧ RmL b C C' ∧ LW N np T E G' := by
  have h30 : E 6 (7 * t + 1) = G.2 30 t := by
    rcases (hL.1.2.2.2.1.1 t ht).2.2 with z | z
    · omega
    · exact z.2.2.1
  have i30 : inR (t : Int) (mLen 30) := inM (n := 24) rfl (by omega) (by decide)
  have hY : fX12_read (t : Int) (w : Int) G = some (E 6 (7 * t + 1), mSet G 36 0) := by
    rw [rdX hL ht hp, bnd_eq, bnd_eq, h27, if_neg (by decide), h30]
    by_cases c : w = 1
    · rw [c, if_pos (by decide)]; (try dsimp only); rw [if_pos i30, ix_n (by omega)]; rfl
    · have w0 : w = 0 := by omega
      have ns := hs.resolve_left c
      rw [w0, if_neg (by decide)]
      rcases (h.s36 0).old_ (by omega) (show t < 24 by omega) (show (mSet G 36 0).2 6 t ≠ -1 from hp) with ⟨e, p⟩ | ⟨e, p⟩
      · exact absurd (((h.st (show t < 24 by omega))).mpr p) ns
      · rw [cal_of e, if_pos (by decide)]; (try dsimp only); rw [if_pos i30, ix_n (by omega)]; rfl
  obtain ⟨C', c1, c2, c3⟩ := deed_of (call_read h hk (x := (t : Int)) (w := (w : Int)) ⟨by omega, by omega⟩) hY (mS1 G 36 0) cd2_ne
  exact ⟨C', _, c1, c2, c3, hL.sc (SmG.s36 G 0)⟩
theorem R_readNew {w : Nat} (h : RR b kc G C) (hk : kc ≤ 900) (hL : LW N np T E G) (ht : t < 8) (hw : w < 2) (hp : G.2 6 t ≠ -1) (h3 : E 0 3 + 8 < 100000) (q : Nat → Nat) (hs : G.2 27 t = 0 ∨ (G.2 27 t = 1 ∧ w = 0 ∧ stF G t)) : ∃ E' q', fW_rendered (t : Int) E C q = some ((), (E', cB3 C, q')) ∧ (∀ j, j ≤ 11 → q' j = q j) ∧ (E 0 3 ≤ E' 0 3 ∧ E' 0 3 ≤ E 0 3 + 8) ∧ ∃ C' G', fX11_read b (t : Int) (w : Int) (cB3 C) = some (.inl (E' 6 (7 * t + 1)), C') ∧ RR b (kc + 1) G' C' ∧ RmL b (cB3 C) C' ∧ LW N np T E' G' := by
  have hz := h.1.1.sz
  obtain ⟨E', G', q', Cv, e1, e2, e3, e4, e5, e6, e7, e8⟩ := R_rendAll (C := C) (h.s36 0) hk (hL.sc (SmG.s36 G 0)) ht hp h3 (by omega) q
  refine ⟨E', q', e1, e8, e6, ?_⟩
  have i30 : inR (t : Int) (mLen 30) := inM (n := 24) rfl (by omega) (by decide)
  have hY : fX12_read (t : Int) (w : Int) G = some (E' 6 (7 * t + 1), G') := by
    rw [rdX hL ht hp, bnd_eq, bnd_eq, e7]
    rcases hs with z | ⟨z, w0, st⟩
    · rw [z, if_pos (by decide)]; (try dsimp only); rw [cal_of e2]; (try dsimp only); rw [if_pos i30, ix_n (by omega)]
    · rw [z, if_neg (by decide), w0, if_neg (by decide)]
      rcases (h.s36 0).old_ (by omega) (show t < 24 by omega) (show (mSet G 36 0).2 6 t ≠ -1 from hp) with ⟨e, p⟩ | ⟨e, p⟩
      · rw [cal_of e, if_neg (by decide)]; (try dsimp only); rw [cal_of e2]; (try dsimp only); rw [if_pos i30, ix_n (by omega)]
      · exact absurd ((h.st (show t < 24 by omega)).mp st) p
  obtain ⟨C', c1, c2, c3⟩ := deed_of (call_read h.b3 hk (x := (t : Int)) (w := (w : Int)) ⟨by omega, by omega⟩) hY (e5.trans (mS1 G 36 0)) cd2_ne
  exact ⟨C', _, c1, c2, c3, e4⟩
theorem R_readNo {w : Nat} (h : RR b kc G C) (hk : kc ≤ 900) (hL : LW N np T E G) (ht : t < 8) (hp : G.2 6 t = -1) : ∃ C' G', fX11_read b (t : Int) (w : Int) C = some (.inr 2, C') ∧ RR b (kc + 1) G' C' ∧ RmL b C C' ∧ LW N np T E G' := by
  have hY : fX12_read (t : Int) (w : Int) G = some (0, mSet G 36 1) := by
    unfold fX12_read
    rw [cal_of (hasP0 hL ht hp), bnd_eq, if_pos (by decide)]
    dsimp only
    rw [bnd_eq, mS1, if_neg (by decide)]
  obtain ⟨C', e, e1, e2, e3, e4, e5⟩ := deed_no (call_read h hk (x := (t : Int)) (w := (w : Int)) ⟨by omega, by omega⟩) hY (by rw [mS1]; decide)
  rw [mS1] at e2
  rw [cd2_2 e3 e2.symm] at e1
  exact ⟨C', _, e1, e4, e5, hL.sc (SmG.s36 G 1)⟩
/-- who is next, in both -/
theorem nextB (h : RR b kc G C) (hk : kc ≤ 1000) (hL : LW N np T E G) : ∃ nx : Int, fW_next E = some (nx, E) ∧ fX12_nextStale G = some (nx, G) ∧ (nx = -1 ∨ ∃ k : Nat, k < 8 ∧ nx = (k : Int) ∧ G.2 6 k ≠ -1) := by
  have r := h.next hk
  have e : fiq (wqC b C) (G.2 4) 24 = fiq (wqC b C) (G.2 4) 8 := fiq_out 8 16 (fun k a c => h.nopage (by omega) (hL.2.2.2.1.2.2 k a (by omega)))
  rw [e] at r
  refine ⟨(fiq (wqC b C) (G.2 4) 8).1, W_next hL.1.2.1 hL.1.2.2.2.1 hL.1.2.2.2.2 (fun t ht => h.st (by omega)), r, ?_⟩
  rcases fiq_rng (w := wqC b C) (r := G.2 4) 8 with z | ⟨k, k1, k2, k3⟩
  · rw [z]; exact Or.inl rfl
  · refine Or.inr ⟨k, k1, by rw [k3], fun z => ?_⟩
    rw [h.nopage (by omega) z] at k2
    cases k2
abbrev wkR (n : Int) : (Int → Int → Md → Option (Int × Md)) → Int → Int → Md → Option (Int × Md) := fun L25 (v2_25 : Int) (v3_25 : Int) (M_25 : Md) =>
    bnd (fun (M_58 : Md) =>
    (some (v2_25, M_58) : Option (Int × Md))) fun J58 =>
    if w32 v3_25 = w32 (-1) then
    J58 M_25
    else
    if w32 n ≤ w32 v2_25 then
    J58 M_25
    else
    if ¬ w32 (M_25.1 36) = 0 then
    J58 M_25
    else
    cal (fX12_render v3_25 M_25) fun r7 M6 =>
    cal (fX12_nextStale M6) fun r9 M8 =>
    L25 (v2_25 + 1) r9 M8
abbrev wkZ : Int → Int → Md → Option (Int × Md) := fun (_ : Int) (_ : Int) (_ : Md) => (none : Option (Int × Md))
abbrev wlZ : Int → Int → Rw → Cd → (Nat → Nat) → Option (Int × S3) := fun (_ : Int) (_ : Int) (_ : Rw) (_ : Cd) (_ : (Nat → Nat)) => (none : Option (Int × S3))
abbrev wlB (a1 : Nat) (J : Int → Rw → Cd → (Nat → Nat) → Option (Int × S3)) (n : Int) : (Int → Int → Rw → Cd → (Nat → Nat) → Option (Int × S3)) → Int → Int → Rw → Cd → (Nat → Nat) → Option (Int × S3) := fun L1364 (v25_1364 : Int) (v26_1364 : Int) (E_1364 : Rw) (C_1364 : Cd) (q_1364 : (Nat → Nat)) => fW_law_1364 a1 J n L1364 v25_1364 v26_1364 E_1364 C_1364 q_1364
theorem work_loop {a1 : Nat} {J : Int → Rw → Cd → (Nat → Nat) → Option (Int × S3)} {n : Nat} (hn : n ≤ 4) : ∀ (d i : Nat) (nx : Int) (kc : Nat) (G : Md) (E : Rw) (C Cv : Cd) (q : Nat → Nat) (mr ml : Nat), i + d = n → RR b kc G Cv → kc + d ≤ 900 → LW N np T E G → G.1 36 = 0 → csz C ≠ 0 → E 0 3 + 8 * d < 100000 → d < mr → d < ml → fX12_nextStale G = some (nx, G) → (nx = -1 ∨ ∃ k : Nat, k < 8 ∧ nx = (k : Int) ∧ G.2 6 k ≠ -1) →
    ∃ (r : Nat) (G1 : Md) (E1 : Rw) (q1 : Nat → Nat) (m : Nat), lpn wkZ (wkR (n : Int)) mr (i : Int) nx G = some ((r : Int), G1) ∧ lpn wlZ (wlB a1 J (n : Int)) ml (i : Int) nx E C q = fW_law_1413 a1 J (n : Int) (r : Int) E1 (cBn m C) q1 ∧ LW N np T E1 G1 ∧ G1.1 36 = 0 ∧ m ≤ d ∧ (E 0 3 ≤ E1 0 3 ∧ E1 0 3 ≤ E 0 3 + 8 * d) ∧ (∀ j, j ≤ 11 → q1 j = q j) ∧ r ≤ n := by
  intro d
  induction d with
  | zero =>
    intro i nx kc G E C Cv q mr ml hi h hk hL h36 hC h3 hr hl hnx hrg
    obtain ⟨mr, rfl⟩ : ∃ m, mr = m + 1 := ⟨mr - 1, by omega⟩
    obtain ⟨ml, rfl⟩ : ∃ m, ml = m + 1 := ⟨ml - 1, by omega⟩
    have hin : i = n := by omega
    refine ⟨i, G, E, q, 0, ?_, ?_, hL, h36, Nat.le_refl _, ⟨Int.le_refl _, by omega⟩, fun _ _ => rfl, by omega⟩
    · rw [lpn_succ]
      dsimp only [wkR]
      rw [bnd_eq]
      rcases hrg with z | ⟨k, k1, k2, k3⟩
      · rw [z, if_pos rfl]
      · rw [k2, if_neg (by rw [w32_n (by omega), show w32 (-1) = -1 from rfl]; omega), if_pos (by rw [hin]; exact Int.le_refl _)]
    · rw [lpn_succ]
      show fW_law_1364 a1 J _ _ _ _ _ _ _ = _
      unfold fW_law_1364
      rw [bnd_eq]
      rcases hrg with z | ⟨k, k1, k2, k3⟩
      · rw [z, if_pos (by decide)]; rfl
      · rw [k2, if_neg (by rw [w32_n (by omega)]; omega), if_pos (by rw [hin]; exact Int.le_refl _)]; rfl
  | succ d ih =>
    intro i nx kc G E C Cv q mr ml hi h hk hL h36 hC h3 hr hl hnx hrg
    obtain ⟨mr, rfl⟩ : ∃ m, mr = m + 1 := ⟨mr - 1, by omega⟩
    obtain ⟨ml, rfl⟩ : ∃ m, ml = m + 1 := ⟨ml - 1, by omega⟩
    rcases hrg with z | ⟨k, k1, k2, k3⟩
    · refine ⟨i, G, E, q, 0, ?_, ?_, hL, h36, Nat.zero_le _, ⟨Int.le_refl _, by omega⟩, fun _ _ => rfl, by omega⟩
      · rw [lpn_succ]
        dsimp only [wkR]
        rw [bnd_eq, z, if_pos rfl]
      · rw [lpn_succ]
        show fW_law_1364 a1 J _ _ _ _ _ _ _ = _
        unfold fW_law_1364
        rw [bnd_eq, z, if_pos (by decide)]; rfl
    · obtain ⟨E', G', q', Cv', e1, e2, e3, e4, e5, e6, e7, e8⟩ := R_rendAll (C := C) h (by omega) hL k1 k3 (by omega) hC q
      obtain ⟨nx', n1, n2, n3⟩ := nextB e3 (by omega) e4
      obtain ⟨r, G1, E1, q1, m, r1, r2, r3, r4, r5, r6, r7, r8⟩ := ih (i + 1) nx' (kc + 1) G' E' (cB3 C) Cv' q' mr ml (by omega) e3 (by omega) e4 (e5.trans h36) (by show csz C + 3 ≠ 0; omega) (by omega) (by omega) (by omega) n2 n3
      refine ⟨r, G1, E1, q1, m + 1, ?_, ?_, r3, r4, by omega, by omega, fun j hj => (r7 j hj).trans (e8 j hj), r8⟩
      · rw [lpn_succ]
        dsimp only [wkR]
        rw [bnd_eq, k2, if_neg (by rw [w32_n (by omega), show w32 (-1) = -1 from rfl]; omega), if_neg (by rw [w32_n (by omega), w32_n (by omega)]; omega), h36, if_neg (fun y => y (by decide)), cal_of e2, cal_of n2]
        exact r1
      · rw [lpn_succ]
        show fW_law_1364 a1 J _ _ _ _ _ _ _ = _
        unfold fW_law_1364
        rw [bnd_eq, k2, if_neg (by rw [w32_n (by omega)]; omega), if_neg (by rw [w32_n (by omega), w32_n (by omega)]; omega), cal3_of e1, cal1_of n1]
        exact r2
/-- work, in both -/
theorem R_work {J : Int → Rw → Cd → (Nat → Nat) → Option (Int × S3)} {n : Nat} (hn : 1 ≤ n ∧ n ≤ 4) (h : RR b kc G C) (hk : kc ≤ 800) (hL : LW N np T E G) (h3 : E 0 3 + 8 * 4 < 100000) (q : Nat → Nat) : ∃ (C' : Cd) (G' : Md) (E' : Rw) (q' : Nat → Nat) (m : Nat) (nx : Int), fW_next E = some (nx, E) ∧ lpn wlZ (wlB b J (n : Int)) FU 0 nx E C q = J 1 E' C' q' ∧ RR b (kc + 1) G' C' ∧ m ≤ 4 ∧ RmL b (cBn m C) C' ∧ LW N np T E' G' ∧ (E 0 3 ≤ E' 0 3 ∧ E' 0 3 ≤ E 0 3 + 32) ∧ ∀ j, j ≤ 11 → q' j = q j := by
  have hz := h.1.1.sz
  have hL0 := hL.sc (SmG.s36 G 0)
  obtain ⟨nx, n1, n2, n3⟩ := nextB (h.s36 0) (by omega) hL0
  obtain ⟨r, G1, E1, q1, m, r1, r2, r3, r4, r5, r6, r7, r8⟩ := work_loop (a1 := b) (J := J) hn.2 n 0 nx kc (mSet G 36 0) E C C q FU FU (by omega) (h.s36 0) (by omega) hL0 (mS1 G 36 0) (by omega) (by omega) (by unfold FU; omega) (by unfold FU; omega) n2 n3
  have hY : fX12_work (n : Int) G = some ((r : Int), G1) := by
    unfold fX12_work
    rcases X12_in_ (x := (n : Int)) (lo := 1) (hi := 4) G ⟨by omega, by omega⟩ ⟨by decide, by decide⟩ ⟨by decide, by decide⟩ with ⟨e, p⟩ | ⟨e, p⟩
    · rw [cal_of e, bnd_eq, if_neg (by decide)]
      dsimp only
      rw [bnd_eq, cal_of n2, bnd_eq]
      exact r1
    · exact absurd ⟨by omega, by omega⟩ p
  have hm := h.bn m
  obtain ⟨C', c1, c2, c3⟩ := deed_of (call_work hm (by omega) (x := (n : Int)) ⟨by omega, by omega⟩) hY r4 (fun e _ => by unfold cd0; split <;> decide)
  refine ⟨C', G1, E1, q1, m, nx, n1, ?_, c2, by omega, c3, r3, by omega, r7⟩
  refine Eq.trans r2 ?_
  unfold fW_law_1413 fW_law_1429
  rw [if_pos hm.1.1.o, calt_of c1, bnd_eq, if_neg (fun z => z rfl)]
end WRK
