/-! isWiki GIVES 1: what is shown -/
section WI2
variable {b kc N np t : Nat} {E : Rw} {G : Md} {C : Cd} {T : Nat → List Nat} {q : Nat → Nat} {y4 : Nat}
theorem W_digest (h : RR b kc G C) (ht : t < 24) (hp : G.2 6 t ≠ -1) {r : List Int} {lk ct rd cd us : Nat} (hg : RG b G C t r lk ct rd cd us) : fW_digest b 9 (t : Int) C = some (digF r, C) := by
  have ho := h.1.1.o
  have okr_ := hg.2.2.1.2.2.2.1
  have l150 := okr_.1
  have at_ : ∀ j : Nat, j < 1000 → fW_does b 9 (t : Int) (j : Int) 0 C = some (if j < r.length then r.getD j 0 else -1, C) := fun j hj => does_9 (Q_shown h ht hp hg (by omega)) ho
  have pos : ∀ j : Nat, j < r.length → 0 ≤ r.getD j 0 ∧ r.getD j 0 < 10000 := fun j hj => by
    have := okr_.2 (r.getD j 0) (by rw [List.getD_eq_getElem?_getD, List.getElem?_eq_getElem hj]; exact List.getElem_mem hj)
    exact this
  unfold fW_digest
  have a0 := at_ 0 (by decide)
  rw [show ((0 : Nat) : Int) = 0 from rfl] at a0
  rw [cal1_of a0, bnd_eq]
  refine lpn_rule (P := fun mm (L : Int → Int → Int → Cd → Option (Int × Cd)) => ∀ j : Nat, j ≤ r.length → r.length - j < mm → L (digF (r.take j)) (if j < r.length then r.getD j 0 else -1) ((j + 1 : Nat) : Int) C = some (digF r, C)) (fun j _ h => absurd h (Nat.not_lt_zero _)) (fun mm L hLL j hj hm => ?_) FU 0 (Nat.zero_le _) (by unfold FU; omega)
  rcases Nat.lt_or_ge j r.length with hlt | hge
  · have z := hLL (j + 1) (by omega) (by omega)
    have pj := pos j hlt
    have tk : r.take (j + 1) = r.take j ++ [r.getD j 0] := gDi_take hlt 0
    rw [tk, digF_snoc] at z
    rw [if_pos hlt, if_neg (by rw [w32_of (by omega) (by omega)]; omega), bnd_eq]
    have a := at_ (j + 1) (by omega)
    rw [cal1_of a, show ((j + 1 : Nat) : Int) + 1 = ((j + 1 + 1 : Nat) : Int) by omega]
    exact z
  · have e : j = r.length := by omega
    subst e
    rw [if_neg (Nat.lt_irrefl _), if_pos (by decide), List.take_length]
theorem rowAt_end (acc : List Int) : rowAt acc acc.length = -1 := if_neg (Nat.lt_irrefl _)
theorem lc_same (x : Int) : w32 (lcmpI x x) = 0 := (lcmp_eq0 x x).mpr rfl
/-- a title shown anew, twice -/
theorem W_isAnew {a8 : Int} (hI : IS b kc N np T y4 E C q G) (hk : kc ≤ 900) (ht : t < 8) (ha : 0 ≤ a8 ∧ a8 < 100000000) (hp : G.2 6 t ≠ -1) : ∃ E' C' q' G', fW_isAnew b y4 (t : Int) a8 E C q = some (1, (E', C', q')) ∧ IS b kc N np T y4 E' C' q' G' ∧ SmG G G' ∧ IsR b C C' 1006 20048 ∧ ∀ r, r ≤ 10 → E' r = E r := by
  obtain ⟨h, hL, ⟨S, s1, s2⟩, ⟨w, w1, w2⟩, hq, hy⟩ := hI
  have h8 := hL.2.2.2.2.2.1
  have hz := h.1.1.sz
  have hpr := h.prN h8 (show t < 24 by omega) hp
  obtain ⟨E3, q5, e1, ⟨z0, z1, z2, z3, z4, z6, z7⟩, e3, e4⟩ := W_renders3 (kz := 11) (q := q) (C := C) (Or.inr rfl) hL.1 (enG_ln hL.1).1 w2 ht hpr w1 (by omega)
  have hL3 := hL.rows (E' := E3) (fun r hr => e3 r (by omega) (by omega) (by omega) (by omega))
  obtain ⟨C8, G1, a1, a2, a3, a4⟩ := Q_shownAnew (j := (mX (enG N G) T 6 [t] (T (prAt G N t).toNat) mA0).1.length) h.b3 hk hL ht hp (by omega)
  rw [rowAt_end] at a1
  have hL1 := hL.sc a3
  have en1 := enG_sm (N := N) a3
  have pr1 : prAt G1 N t = prAt G N t := prAt_same a3.vs N t
  have six1 : G1.2 6 = G.2 6 := a3.2 6 (by decide) (by decide)
  -- the wanted place
  obtain ⟨wn, hw, hwl, hwn⟩ : ∃ wn : Nat, (if ¬ w32 (E3 11 4) = 0 then remI a8 (E3 11 4) else 0) = (wn : Int) ∧ wn < 150 ∧ ((mX (enG N G) T 6 [t] (T (prAt G N t).toNat) mA0).1.length = 0 → wn = 0) := by
    rw [z4.1]
    by_cases c : (mX (enG N G) T 6 [t] (T (prAt G N t).toNat) mA0).1.length = 0
    · exact ⟨0, by rw [c, if_neg (fun z => z rfl)]; rfl, by decide, fun _ => rfl⟩
    · refine ⟨a8.toNat % (mX (enG N G) T 6 [t] (T (prAt G N t).toNat) mA0).1.length, ?_, ?_, fun z => absurd z c⟩
      · rw [if_pos (by rw [w32_n (by omega)]; omega)]
        have e : a8 = (a8.toNat : Int) := by omega
        rw [e, remI_N (by omega) (by omega) (by omega), Int.toNat_natCast]
      · have := Nat.mod_lt a8.toNat (show 0 < (mX (enG N G) T 6 [t] (T (prAt G N t).toNat) mA0).1.length by omega)
        omega
  have r6 : ∀ r, r ≠ 11 → wPut E3 11 6 (wn : Int) r = E3 r := fun r hr => wPk _ _ hr
  have hL4 : LW N np T (wPut E3 11 6 (wn : Int)) G1 := (hL1.rows (E' := E3) (fun r hr => e3 r (by omega) (by omega) (by omega) (by omega))).rows (fun r hr => r6 r (by omega))
  have hz8 := a2.1.1.sz
  obtain ⟨E13, q15, f1, ⟨y0, y1, y2, y3, y4', y6, y7⟩, f3, f4⟩ := W_renders3 (kz := 11) (q := q5) (C := C8) (Or.inr rfl) hL4.1 (enG_ln hL4.1).1 hwl ht (by rw [pr1]; exact hpr) (wP1 _ _ _ _) (by omega)
  rw [pr1, en1] at f1 y0 y1 y2 y3 y4' y7
  obtain ⟨C10, G2, g1, g2, g3, g4⟩ := Q_shownAnew (j := wn) a2.b3 hk hL4 ht (by rw [six1]; exact hp) (by omega)
  rw [pr1, en1] at g1
  generalize mX (enG N G) T 6 [t] (T (prAt G N t).toNat) mA0 = A at *
  have q5e : q5 11 = y4 := (e4 11 (by decide)).trans hq
  have q15e : q15 11 = y4 := (f4 11 (by decide)).trans q5e
  have rows13 : ∀ r, r ≤ 10 → E13 r = E r := fun r hr => by
    rw [f3 r (by omega) (by omega) (by omega) (by omega), r6 r (by omega), e3 r (by omega) (by omega) (by omega) (by omega)]
  refine ⟨E13, C10, q15, G2, ?_, ⟨g2, ?_, ⟨A.2.2.2.2.1, y1.1, y1.2⟩, ⟨wn, y6, hwl⟩, q15e, hy⟩, a3.tr g3, ?_, rows13⟩
  · have ho3 := h.b3.1.1.o
    have ho8 := a2.1.1.o
    have ho9 := a2.b3.1.1.o
    unfold fW_isAnew
    rw [if_pos ⟨hq, by rw [hq]; exact hy⟩, cal3_of e1, if_pos ⟨⟨q5e, by rw [q5e]; exact hy⟩, inW 8 wl_11 (by decide) (by decide) (by decide)⟩, bnd_eq, bnd_eq, show ix 4 = 4 from rfl]
    have i6 : inR 6 (wLen 11) := inW 8 wl_11 (by decide) (by decide) (by decide)
    have i7 : inR 7 (wLen 11) := inW 8 wl_11 (by decide) (by decide) (by decide)
    have J81 : fW_isAnew_81 b y4 (t : Int) 1 E13 (cB3 C8) q15 = some (1, (E13, C10, q15)) := by
      unfold fW_isAnew_81 fW_isAnew_115 fW_isAnew_114
      rw [bnd_eq, bnd_eq, if_neg (by decide), if_pos ⟨⟨q15e, by rw [q15e]; exact hy⟩, i6⟩, show ix 6 = 6 from rfl, y6, cal1_of (does_10 g1 ho9), if_pos ⟨⟨q15e, by rw [q15e]; exact hy⟩, i7⟩, show ix 7 = 7 from rfl, y7]
      have e : rowAt A.1 wn = (if wn < A.1.length then A.1.getD wn 0 else -1) := rfl
      rw [e, if_neg (fun z => z rfl)]
      rfl
    have J40 : fW_isAnew_40 b y4 (t : Int) (digF A.1) (E3 11 4) (wn : Int) E3 (cB3 C) q5 = some (1, (E13, C10, q15)) := by
      unfold fW_isAnew_40
      rw [if_pos ⟨⟨q5e, by rw [q5e]; exact hy⟩, i6⟩, show ix 6 = 6 from rfl, bnd_eq, z4.1, cal1_of (does_10 a1 ho3), bnd_eq, bnd_eq, if_neg (fun z => z rfl), if_pos ⟨q5e, by rw [q5e]; exact hy⟩, cal3_of f1, if_neg (fun z => z (lc_same _))]
      exact J81
    by_cases c : w32 (E3 11 4) = 0
    · rw [if_neg (fun z => z c)] at hw
      have J := J40
      rw [← hw] at J
      rw [if_neg (fun z => z c)]
      exact J
    · rw [if_pos c] at hw
      rw [if_pos c, if_neg c, hw]
      exact J40
  · exact (hL4.sc g3).rows (fun r hr => (f3 r (by omega) (by omega) (by omega) (by omega)))
  · exact ((((IsR.b3 C).tr (IsR.rml a4)).tr (IsR.b3 C8)).tr (IsR.rml g4)).mono (by omega) (by omega)
/-- what a title shows, as it is asked -/
theorem wiki_C {a10 : Int} {L32 : Int → Int → Int → Int → Rw → Cd → (Nat → Nat) → Option (Int × S3)} {v14 x13 r19 : Int} (hI : IS b kc N np T y4 E C q G) (hk : kc ≤ 900) (ht : t < 8) (ha : 0 ≤ a10 ∧ a10 < 100000000) (hr : r19 = 1 ∧ stF G t ∨ r19 = 0 ∧ ¬ stF G t) : ∃ E' C' q' G', fW_isWiki_266 b a10 y4 L32 v14 (t : Int) (prAt G N t) r19 (flg E t) x13 1 E C q = fW_isWiki_433 b L32 v14 (t : Int) (prAt G N t) x13 1 E' C' q' ∧ IS b kc N np T y4 E' C' q' G' ∧ SmG G G' ∧ IsR b C C' 1006 20048 ∧ ∀ r, r ≤ 10 → E' r = E r := by
  have hI0 := hI
  obtain ⟨h, hL, hS, hw, hq, hy⟩ := hI
  have h8 := hL.2.2.2.2.2.1
  have ho := h.1.1.o
  have rg := prAt_lt (N := N) hL.1.2.1 ht
  have n32 := hL.1.1.2.1
  by_cases hp : G.2 6 t = -1
  · have pm : prAt G N t = -1 := by unfold prAt; rw [if_pos hp]
    refine ⟨E, C, q, G, ?_, hI0, SmG.rf, ⟨by omega, by omega, Nat.le_refl _, Nat.le_refl _⟩, fun _ _ => rfl⟩
    unfold fW_isWiki_266
    rw [bnd_eq, if_neg (by decide), pm, if_pos (by decide)]
  · have pr := h.prN h8 (show t < 24 by omega) hp
    have prg := rg.resolve_left pr
    obtain ⟨pv, hpv⟩ : ∃ pv : Nat, prAt G N t = (pv : Int) := ⟨(prAt G N t).toNat, by omega⟩
    have pvN : pv < N := by omega
    obtain ⟨r, lk, ct, rd, cd, us, hg⟩ := h.rg (show t < 24 by omega)
    have gl := hL.1.2.2.2.1.1 t ht
    -- the row, as the law has it
    have ek : (flg E t = 0 ∧ r = []) ∨ (flg E t = 1 ∧ E 6 (7 * t + 1) = (r.length : Int) ∧ E 7 t = digF r) := by
      have hg0 := hg
      obtain ⟨q1, q2, q3, q4, q5, q6, q7⟩ := hg
      unfold flg
      rcases gl.2.2 with z | ⟨z1, z2, z3, _, _⟩
      · exact Or.inl ⟨by rw [z.2.1, if_pos (by decide)], (q7 z.1).1⟩
      · obtain ⟨⟨a1, a2⟩, _⟩ := q6 z1
        obtain ⟨r', b1, b2, b3, b4⟩ := hL.2.1 t ht z1
        have ln : r'.length = r.length := by omega
        have er : r' = r := List.ext_getElem ln (fun i hi hj => by
          have x1 := b3 i hi
          have x2 := a2 i hj
          rw [x2, List.getD_eq_getElem?_getD, List.getD_eq_getElem?_getD, List.getElem?_eq_getElem hi, List.getElem?_eq_getElem hj] at x1
          exact x1.symm)
        exact Or.inr ⟨by rw [if_neg (by omega)], z3.trans a1, by rw [b4, er]⟩
    have hr19 : (if wqC b C t = true then (1 : Int) else 0) = r19 := by
      have st := h.st (show t < 24 by omega)
      rcases hr with ⟨e, p⟩ | ⟨e, p⟩
      · rw [if_pos (st.mp p), e]
      · rw [if_neg (fun z => p (st.mpr z)), e]
    obtain ⟨rp, kp, op, lp1, lp2⟩ := hL.rep pvN
    -- the last: the first token
    have J396 : ∀ (E1 : Rw) (C1 : Cd) (q1 : Nat → Nat) (G1 : Md), IS b kc N np T y4 E1 C1 q1 G1 → SmG G G1 → (∀ r, r ≤ 10 → E1 r = E r) → ∀ J : Int → Rw → Cd → (Nat → Nat) → Option (Int × S3), fW_isWiki_396 b (t : Int) (pv : Int) J 1 E1 C1 q1 = J 1 E1 C1 q1 := by
      intro E1 C1 q1 G1 hI1 sm hE1 J
      obtain ⟨h1, hL1, _⟩ := hI1
      have tk := Q_tok0 h1 hL1.2.2.2.2.2.1 (show t < 24 by omega) (by rw [sm.2 6 (by decide) (by decide)]; exact hp)
      rw [prAt_same sm.vs N t, hpv, Int.toNat_natCast] at tk
      obtain ⟨c1, c2, c3, c4, c5⟩ := hL1.1.2.2.1 pv pvN
      have l := tks_len (T pv)
      have tm := c2.tm (by omega)
      have m0 := W_macro tm (i := 0) (by omega)
      rw [show ((0 : Nat) : Int) = 0 from rfl] at m0
      have ml := (c2.1 _ (getD_mm (k := 0) (T := T pv) (by omega))).lt
      have cl := cdL_len ((T pv).getD 0 0)
      have cd := W_code ml (k := 0) (by decide)
      rw [show ((0 : Nat) : Int) = 0 from rfl] at cd
      have ge : (cdL ((T pv).getD 0 0)).getD 0 (-1) = tx G1 pv 0 := by
        have hc0 : 0 < (cdL ((T pv).getD 0 0)).length := by omega
        rw [c5 0 (by omega), tks_0 lp1, List.getD_eq_getElem?_getD, List.getD_eq_getElem?_getD (l := cdL ((T pv).getD 0 0)) (a := 0), List.getElem?_eq_getElem hc0]
        rfl
      rw [ge] at cd
      unfold fW_isWiki_396 fW_isWiki_431
      rw [bnd_eq, bnd_eq, if_neg (by decide), if_pos h1.1.1.o, calt_of tk, if_pos (inWn 32 wl_3 (by omega) (by decide)), ix_n (n := pv) (by omega), c1, cal1_of m0, cal1_of cd, if_neg (fun z => z rfl)]
    -- what is shown anew
    have J358 : ∀ (J : Int → Rw → Cd → (Nat → Nat) → Option (Int × S3)) (J395 : Rw → Cd → (Nat → Nat) → Option (Int × S3)), ∃ E' C' q' G', fW_isWiki_358 b a10 y4 (t : Int) (fun t0 E C q => fW_isWiki_396 b (t : Int) (pv : Int) J t0 E C q) J395 E C q = J 1 E' C' q' ∧ IS b kc N np T y4 E' C' q' G' ∧ SmG G G' ∧ IsR b C C' 1006 20048 ∧ ∀ r, r ≤ 10 → E' r = E r := by
      intro J J395
      unfold fW_isWiki_358 fW_isWiki_391
      rw [bnd_eq]
      by_cases c : w32 (t : Int) = w32 (remI a10 8)
      · obtain ⟨E', C', q', G', x1, x2, x3, x4, x5⟩ := W_isAnew hI0 hk ht (a8 := divI a10 8) (by rw [divI_of (by omega) (by omega) (by decide) (by decide)]; omega) hp
        refine ⟨E', C', q', G', ?_, x2, x3, x4, x5⟩
        rw [if_neg (fun z => z c), cal3_of x1, if_neg (by decide)]
        exact J396 E' C' q' G' x2 x3 x5 J
      · refine ⟨E, C, q, G, ?_, hI0, SmG.rf, ⟨by omega, by omega, Nat.le_refl _, Nat.le_refl _⟩, fun _ _ => rfl⟩
        rw [if_pos c]
        exact J396 E C q G hI0 SmG.rf (fun _ _ => rfl) J
    have J313 : ∀ (J : Int → Rw → Cd → (Nat → Nat) → Option (Int × S3)) (J395 : Rw → Cd → (Nat → Nat) → Option (Int × S3)) (ix_ : Nat), ix_ = r.length → ∃ E' C' q' G', fW_isWiki_313 b a10 y4 (t : Int) (flg E t) (fun t0 E C q => fW_isWiki_396 b (t : Int) (pv : Int) J t0 E C q) J395 (ix_ : Int) E C q = J 1 E' C' q' ∧ IS b kc N np T y4 E' C' q' G' ∧ SmG G G' ∧ IsR b C C' 1006 20048 ∧ ∀ r, r ≤ 10 → E' r = E r := by
      intro J J395 ix_ hix
      subst hix
      have l150 := hg.2.2.1.2.2.2.1.1
      have sh := Q_shown h (show t < 24 by omega) hp hg (j := r.length) (by omega)
      rw [if_neg (Nat.lt_irrefl _)] at sh
      obtain ⟨E', C', q', G', x1, x2, x3, x4, x5⟩ := J358 J J395
      refine ⟨E', C', q', G', ?_, x2, x3, x4, x5⟩
      unfold fW_isWiki_313
      rw [cal1_of (does_9 sh ho), if_neg (fun z => z rfl), bnd_eq]
      by_cases c : w32 (remI (t : Int) 2) = w32 (remI a10 2)
      · rw [if_neg (fun z => z c), cal1_of (W_digest h (show t < 24 by omega) hp hg), bnd_eq]
        unfold fW_isWiki_354
        rcases ek with ⟨f0, f1⟩ | ⟨f0, f1, f2⟩
        · rw [f0, if_pos (by decide), f1]; (try dsimp only); rw [if_neg (show ¬ ¬ w32 (lcmpI (digF []) 1) = 0 from fun z => z (lc_same 1))]
          exact x1
        · rw [f0, if_neg (by decide), if_pos (inWn 8 wl_7 ht (by decide)), ix_n (n := t) (by omega), f2]; (try dsimp only); rw [if_neg (fun z => z (lc_same _))]
          exact x1
      · rw [if_pos c]
        exact x1
    unfold fW_isWiki_266
    rw [bnd_eq, if_neg (by decide), hpv, if_neg (by rw [w32_n (by omega)]; omega), if_pos ho, calt_of (Q_stale h (show t < 24 by omega) hp), hr19, bnd_eq, bnd_eq, if_neg (fun z => z rfl), bnd_eq]
    rcases ek with ⟨f0, f1⟩ | ⟨f0, f1, f2⟩
    · rw [if_pos (by rw [f0]; decide)]
      exact J313 _ _ 0 (by rw [f1]; rfl)
    · rw [if_neg (by rw [f0]; decide), if_pos (inW 56 wl_6 (by omega) (by omega) (by decide)), ixn (n := 7 * t + 1) (by omega) (by omega), f1]
      exact J313 _ _ r.length rfl
end WI2
