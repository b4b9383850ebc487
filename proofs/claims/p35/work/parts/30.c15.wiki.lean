/-! isWiki GIVES 1: the stages of a title -/
section WIK
variable {b kc N np t : Nat} {E : Rw} {G : Md} {C : Cd} {T : Nat → List Nat} {q : Nat → Nat} {y4 : Nat}
theorem LW.rows {E' : Rw} (hL : LW N np T E G) (e : ∀ r, r ≤ 10 → E' r = E r) : LW N np T E' G := by
  obtain ⟨h1, h2, h3, h4, ⟨h5, h6⟩, h7, h8⟩ := hL
  refine ⟨h1.row (fun k hk => e k (by omega)), ?_, ?_, h4, ⟨by rw [e 0 (by decide)]; exact h5, h6⟩, h7, by rw [e 10 (by decide)]; exact h8⟩
  · unfold LD at h2 ⊢
    rw [e 7 (by decide)]
    exact h2
  · unfold LT at h3 ⊢
    rw [e 9 (by decide)]
    exact h3
/-- the state while it is asked -/
def IS (b kc N np : Nat) (T : Nat → List Nat) (y4 : Nat) (E : Rw) (C : Cd) (q : Nat → Nat) (G : Md) : Prop := RR b kc G C ∧ LW N np T E G ∧ (∃ S : Nat, E 11 1 = (S : Int) ∧ S < 256) ∧ (∃ w : Nat, E 11 6 = (w : Int) ∧ w < 150) ∧ q 11 = y4 ∧ y4 ≠ 0
/-- what asking may take -/
def IsR (b : Nat) (C C' : Cd) (n m : Nat) : Prop := csz C' + 2 * nRow b C ≤ csz C + 2 * nRow b C' + n ∧ csl C' + 153 * nRow b C ≤ csl C + 153 * nRow b C' + m ∧ csz C ≤ csz C' ∧ csl C ≤ csl C'
theorem nRow_cP {C C' : Cd} (h : cP C' = cP C) : nRow b C' = nRow b C := by unfold nRow; rw [h]
theorem IsR.sz {C' : Cd} (h : Sz C C') : IsR b C C' 0 0 := by
  obtain ⟨h1, h2, h3⟩ := h
  have e := nRow_cP (b := b) h3
  exact ⟨by omega, by omega, by omega, by omega⟩
theorem IsR.bump (C : Cd) : IsR b C (cBump C) 1 6 := by
  have e := nRow_cP (b := b) (C := C) (C' := cBump C) rfl
  have e1 : csz (cBump C) = csz C + 1 := rfl
  have e2 : csl (cBump C) = csl C + 6 := rfl
  exact ⟨by omega, by omega, by omega, by omega⟩
theorem IsR.bumpA (C : Cd) (n : Nat) : IsR b C (cBumpA C n) 1 n := by
  have e := nRow_cP (b := b) (C := C) (C' := cBumpA C n) rfl
  have e1 : csz (cBumpA C n) = csz C + 1 := rfl
  have e2 : csl (cBumpA C n) = csl C + n := rfl
  exact ⟨by omega, by omega, by omega, by omega⟩
theorem IsR.rml {C' : Cd} (h : RmL b C C') : IsR b C C' 500 10000 := h
theorem IsR.tr {C1 C2 : Cd} {n m n' m' : Nat} (h : IsR b C C1 n m) (h1 : IsR b C1 C2 n' m') : IsR b C C2 (n + n') (m + m') := by
  obtain ⟨a1, a2, a3, a4⟩ := h
  obtain ⟨b1, b2, b3, b4⟩ := h1
  exact ⟨by omega, by omega, by omega, by omega⟩
theorem IsR.b3 (C : Cd) : IsR b C (cB3 C) 3 24 := ((IsR.bumpA C 8).tr (IsR.bumpA _ 8)).tr (IsR.bumpA _ 8)
theorem IsR.mono {C' : Cd} {n m n' m' : Nat} (h : IsR b C C' n m) (a : n ≤ n') (c : m ≤ m') : IsR b C C' n' m' := ⟨by have := h.1; omega, by have := h.2.1; omega, h.2.2.1, h.2.2.2⟩
theorem nVers_le (h : LW N np T E G) (t : Nat) : nVers G N t ≤ 32 := by
  have := h.1.1.2.1
  unfold nVers
  split
  · exact Nat.zero_le _
  · have := cnt_le (onp G (G.2 6 t)) N; omega
def flg (E : Rw) (t : Nat) : Int := if E 6 (7 * t) ≤ 0 then 0 else 1
/-- how many versions there are, and whether it is stale -/
theorem wiki_A {a0 : Nat} {a10 : Int} {L32 : Int → Int → Int → Int → Rw → Cd → (Nat → Nat) → Option (Int × S3)} {v13 v14 : Int} (hL : LW N np T E G) (ht : t < 8) : ∃ r19 : Int, (r19 = 1 ∧ stF G t ∨ r19 = 0 ∧ ¬ stF G t) ∧ fW_isWiki_32 a0 a10 y4 L32 1 v13 v14 (t : Int) E C q = fW_isWiki_106 a0 a10 y4 L32 v13 v14 (t : Int) (prAt G N t) (nVers G N t : Int) r19 (flg E t) E C q := by
  have nl := nVers_le hL t
  have r0 := (hL.1.2.2.2.1.1 t ht).r0 hL.1.2.2.2.2 ht
  obtain ⟨r19, hr⟩ : ∃ r19 : Int, (r19 = 1 ∧ stF G t ∨ r19 = 0 ∧ ¬ stF G t) ∧ fW_isStale (t : Int) E = some (r19, E) := by
    rcases W_isStale hL.1.2.1 hL.1.2.2.2.1 hL.1.2.2.2.2 ht with ⟨e, p⟩ | ⟨e, p⟩
    · exact ⟨1, Or.inl ⟨rfl, p⟩, e⟩
    · exact ⟨0, Or.inr ⟨rfl, p⟩, e⟩
  refine ⟨r19, hr.1, ?_⟩
  unfold fW_isWiki_32
  rw [bnd_eq, if_neg (by rw [show w32 8 = 8 from rfl, w32_n (by omega)]; omega), if_neg (by decide), cal1_of (W_present hL.1.1 hL.1.2.1 ht), bnd_eq]
  refine lpn_rule (P := fun mm (L : Int → Rw → Cd → (Nat → Nat) → Option (Int × S3)) => ∀ i : Nat, i ≤ nVers G N t → nVers G N t - i < mm → L (i : Int) E C q = fW_isWiki_106 a0 a10 y4 L32 v13 v14 (t : Int) (prAt G N t) (nVers G N t : Int) r19 (flg E t) E C q) (fun i _ h => absurd h (Nat.not_lt_zero _)) (fun mm L hLL i hi hm => ?_) FU 0 (Nat.zero_le _) (by unfold FU; omega)
  unfold fW_isWiki_57
  have vo := W_versionOf hL.1.1 hL.1.2.1 ht (place := i) (by omega)
  rw [cal1_of vo, vofF_at]
  rcases Nat.lt_or_ge i (nVers G N t) with hlt | hge
  · have z := hLL (i + 1) (by omega) (by omega)
    rw [if_pos hlt, if_neg (by
      have hN : vsl G (G.2 6 t) N i < N := by
        unfold nVers at hlt
        by_cases c : G.2 6 t = -1
        · rw [if_pos c] at hlt; omega
        · rw [if_neg c] at hlt
          exact ((ord_all G (G.2 6 t) N).1 i hlt).1
      have := hL.1.1.2.1
      rw [w32_n (by omega)]; omega)]
    exact z
  · have e : i = nVers G N t := by omega
    subst e
    rw [if_neg (Nat.lt_irrefl _), if_pos (by decide), cal1_of hr.2, if_pos (inW 56 wl_6 (by omega) (by omega) (by decide)), bnd_eq, ixn (n := 7 * t) (by omega) (by omega)]
    unfold flg
    by_cases c : E 6 (7 * t) ≤ 0
    · rw [if_pos (by rw [w32_of (by omega) (by omega)]; exact c), if_pos c]
    · rw [if_neg (by rw [w32_of (by omega) (by omega)]; exact c), if_neg c]
/-- an exception of an index -/
theorem does_12 {x : Int} (h : fX11_versionAt b (t : Int) x C = some (.inr 2, cBump C)) (ho : isO C b 14) : fW_does b 12 (t : Int) x 0 C = some (-11, cBump C) := by
  unfold fW_does
  rw [bnd_eq, if_pos (by decide), if_pos (by decide), if_pos (by decide), if_pos (by decide), if_pos (by decide), if_pos (by decide), if_pos (by decide), if_pos (by decide), if_pos (by decide), if_pos (by decide), if_pos (by decide), if_pos (by decide), if_pos ho, calh_ofx h]
  rfl
theorem does_9 {x r : Int} {C' : Cd} (h : fX11_shown b (t : Int) x C = some (.inl r, C')) (ho : isO C b 14) : fW_does b 9 (t : Int) x 0 C = some (r, C') := by
  unfold fW_does
  rw [bnd_eq, if_pos (by decide), if_pos (by decide), if_pos (by decide), if_pos (by decide), if_pos (by decide), if_pos (by decide), if_pos (by decide), if_pos (by decide), if_pos (by decide), if_neg (by decide), if_pos ho, calh_of h]
theorem does_10 {x r : Int} {C' : Cd} (h : fX11_shownAnew b (t : Int) x C = some (.inl r, C')) (ho : isO C b 14) : fW_does b 10 (t : Int) x 0 C = some (r, C') := by
  unfold fW_does
  rw [bnd_eq, if_pos (by decide), if_pos (by decide), if_pos (by decide), if_pos (by decide), if_pos (by decide), if_pos (by decide), if_pos (by decide), if_pos (by decide), if_pos (by decide), if_pos (by decide), if_neg (by decide), if_pos ho, calh_of h]
/-- versions, where it leads, what it links and reads -/
theorem wiki_B {a10 : Int} {L32 : Int → Int → Int → Int → Rw → Cd → (Nat → Nat) → Option (Int × S3)} {v13 v14 r19 : Int} (hI : IS b kc N np T y4 E C q G) (hk : kc ≤ 900) (ht : t < 8) (ha : 0 ≤ a10 ∧ a10 < 100000000) (hr : r19 = 0 ∨ r19 = 1) : ∃ E' C', fW_isWiki_106 b a10 y4 L32 v13 v14 (t : Int) (prAt G N t) (nVers G N t : Int) r19 (flg E t) E C q = fW_isWiki_266 b a10 y4 L32 v14 (t : Int) (prAt G N t) r19 (flg E t) (v13 + r19) 1 E' C' q ∧ IS b kc N np T y4 E' C' q G ∧ IsR b C C' 1 6 ∧ ∀ r, r ≤ 10 → E' r = E r := by
  obtain ⟨h, hL, ⟨S, s1, s2⟩, hw, hq, hy⟩ := hI
  have h8 := hL.2.2.2.2.2.1
  have nl := nVers_le hL t
  have ho := h.1.1.o
  obtain ⟨r, lk, ct, rd, cd, us, hg⟩ := h.rg (show t < 24 by omega)
  -- the exception, the way
  have hb := h.bump
  obtain ⟨C2, l1, l2, l3⟩ := Q_leads hb (by omega) h8 (show t < 24 by omega)
  have g2 := h.2.2.2.2.2.2.2 t (by omega)
  obtain ⟨r2, lk2, ct2, rd2, cd2', us2, hg2⟩ := l2.rg (show t < 24 by omega)
  have gl := hL.1.2.2.2.1.1 t ht
  have r0 := gl.r0 hL.1.2.2.2.2 ht
  -- what the law's row says of the links
  have ek : (flg E t = 0 ∧ lk2 = 0 ∧ rd2 = 0) ∨ (flg E t = 1 ∧ E 6 (7 * t + 2) = (lk2 : Int) ∧ lk2 < 256 ∧ E 6 (7 * t + 3) = (rd2 : Int) ∧ rd2 < 256) := by
    obtain ⟨q1, q2, q3, q4, q5, q6, q7⟩ := hg2
    unfold flg
    rcases gl.2.2 with z | ⟨z1, z2, z3, ⟨lk', rd', ct', cd', w0, w1, w2, w3, w4⟩, z5⟩
    · have z27 := q7 z.1
      exact Or.inl ⟨by rw [z.2.1, if_pos (by decide)], z27.2.1, z27.2.2.2.1⟩
    · have z27 := (q6 z1).2.1
      have e1 : lk' = lk2 := by have := w1.2; have := z27.1; omega
      have e2 : rd' = rd2 := by have := w2.2; have := z27.2.1; omega
      subst e1 e2
      exact Or.inr ⟨by rw [if_neg (by omega)], w1.1, w0.1, w2.1, w0.2.1⟩
  obtain ⟨S', y1, y2, y3, y4'⟩ := W_way (kz := 11) (N := N) (En := enG N G) (Or.inr rfl) hL.1.1 hL.1.2.1 hL.1.2.2.1 (fun t _ => (enG_ln hL.1).2 t) rfl ht s2 s1
  have wo := wayF_or (enG N G) S 5 t 0
  rw [Nat.or_zero] at wo
  rw [wo] at y3
  have wr := (wayF_rng ((enG_ln hL.1).1.tm hL.1) 5 t 0 ht)
  have k0 := Q_linked0 l2 (show t < 24 by omega) hg2
  have k2 := Q_linked2 l2 (show t < 24 by omega) hg2
  have ho2 := l2.1.1.o
  have hE' : ∀ r, r ≤ 10 → wPut E 11 1 (S' : Int) r = E r := fun r hr => wPk _ _ (by omega)
  refine ⟨wPut E 11 1 (S' : Int), C2, ?_, ⟨l2, hL.rows hE', ⟨S', wP1 _ _ _ _, y2⟩, ?_, hq, hy⟩, (IsR.bump C).tr (IsR.sz l3), hE'⟩
  · have J166 : ∀ (J266 : Int → Rw → Cd → (Nat → Nat) → Option (Int × S3)) (J265 : Rw → Cd → (Nat → Nat) → Option (Int × S3)), fW_isWiki_166 b y4 (t : Int) (nVers G N t : Int) (flg E t) J266 J265 E C q = J266 1 (wPut E 11 1 (S' : Int)) C2 q := by
      intro J266 J265
      unfold fW_isWiki_166
      rw [cal1_of (does_12 (Q_verNo h h8 (show t < 24 by omega) (Nat.le_refl _) (by omega)) ho), if_neg (fun z => z rfl), if_pos hb.1.1.o, calt_of l1, if_pos ⟨hq, by rw [hq]; exact hy⟩, cal1_of y3, if_neg (fun z => z rfl), if_pos ho2, calt_of k0, bnd_eq]
      unfold fW_isWiki_229 fW_isWiki_258
      rcases ek with ⟨f0, f1, f2⟩ | ⟨f0, f1, f2, f3, f4⟩
      · rw [f0, if_pos (by decide), f1]; (try dsimp only); rw [if_neg (fun z => z rfl), if_pos ho2, calt_of k2, bnd_eq, if_pos (by decide), f2]; (try dsimp only); rw [if_neg (fun z => z rfl)]
      · have i2 : inR ((7 * (t : Int)) + 2) (wLen 6) := inW 56 wl_6 (by omega) (by omega) (by decide)
        have i3 : inR ((7 * (t : Int)) + 3) (wLen 6) := inW 56 wl_6 (by omega) (by omega) (by decide)
        have x2 : ix ((7 * (t : Int)) + 2) = 7 * t + 2 := ixn (by omega) (by omega)
        have x3 : ix ((7 * (t : Int)) + 3) = 7 * t + 3 := ixn (by omega) (by omega)
        rw [f0, if_neg (by decide), if_pos i2, x2, hE' 6 (by decide), f1]; (try dsimp only); rw [if_neg (fun z => z rfl), if_pos ho2, calt_of k2, bnd_eq, if_neg (by decide), if_pos i3, x3, hE' 6 (by decide), f3]; (try dsimp only); rw [if_neg (fun z => z rfl)]
    have J120 : ∀ t0 : Int, t0 = r19 → fW_isWiki_120 b a10 y4 L32 v13 v14 (t : Int) (prAt G N t) (nVers G N t : Int) r19 (flg E t) t0 E C q = fW_isWiki_266 b a10 y4 L32 v14 (t : Int) (prAt G N t) r19 (flg E t) (v13 + r19) 1 (wPut E 11 1 (S' : Int)) C2 q := by
      intro t0 e
      subst e
      unfold fW_isWiki_120
      rw [bnd_eq, if_pos ho, calt_of (Q_versions h h8 (show t < 24 by omega)), bnd_eq, bnd_eq, if_neg (fun z => z rfl), bnd_eq]
      by_cases c : nVers G N t = 0
      · rw [if_pos (by rw [c]; rfl)]
        exact J166 _ _
      · have rm : remI a10 (nVers G N t : Int) = ((a10.toNat % nVers G N t : Nat) : Int) := by
          have e : a10 = (a10.toNat : Int) := by omega
          rw [e, remI_N (by omega) (by omega) (by omega), Int.toNat_natCast]
        have lt : a10.toNat % nVers G N t < nVers G N t := Nat.mod_lt _ (by omega)
        have va := Q_verAt h h8 (show t < 24 by omega) lt
        have vo := W_versionOf hL.1.1 hL.1.2.1 ht (place := a10.toNat % nVers G N t) (by omega)
        rw [if_neg (by rw [w32_n (by omega)]; omega), if_neg (by rw [w32_n (by omega)]; omega), if_pos ho, rm, calt_of va, if_neg (by rw [w32_n (by omega)]; omega), cal1_of vo, if_neg (fun z => z rfl)]
        exact J166 _ _
    unfold fW_isWiki_106
    rw [bnd_eq]
    rcases hr with e | e
    · rw [if_pos (by rw [e]; decide)]
      exact J120 0 e.symm
    · rw [if_neg (by rw [e]; decide)]
      exact J120 1 e.symm
  · obtain ⟨w, w1, w2⟩ := hw
    exact ⟨w, by rw [wP2 _ _ (by omega)]; exact w1, w2⟩
end WIK
