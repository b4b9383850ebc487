/-! SMALL ONES OF THE CLASS; what goes stale -/
section LF
variable {b : Nat} {C : Cd}
theorem Lay.W (h : Lay b C) : Wf C := h.1
theorem Lay.o (h : Lay b C) : isO C b 14 := h.2.2.1.1
theorem Lay.oe (h : Lay b C) : isO C (b + 1) 4 := h.2.2.1.2.1
theorem Lay.ot (h : Lay b C) : isO C (b + 2) 102 := h.2.2.1.2.2.1.1
theorem Lay.nt (h : Lay b C) : cn C (b + 2) = 24 := h.2.2.1.2.2.1.2
theorem Lay.om (h : Lay b C) : isO C (b + 3) 103 := h.2.2.1.2.2.2.1.1
theorem Lay.nm (h : Lay b C) : cn C (b + 3) = 4 := h.2.2.1.2.2.2.1.2
theorem Lay.r0 (h : Lay b C) : cR C 1400 b = some (b + 1) := h.2.2.2.1.1.1
theorem Lay.r1 (h : Lay b C) : cR C 1401 b = some (b + 2) := h.2.2.2.1.1.2.1
theorem Lay.r2 (h : Lay b C) : cR C 1402 b = some (b + 3) := h.2.2.2.1.1.2.2.1
theorem Lay.r3 (h : Lay b C) : cR C 1403 b = some (b + 845) := h.2.2.2.1.1.2.2.2.1
theorem Lay.r4 (h : Lay b C) : cR C 1404 b = some (b + 848) := h.2.2.2.1.1.2.2.2.2.1
theorem Lay.r5 (h : Lay b C) : cR C 1405 b = some (b + 851) := h.2.2.2.1.1.2.2.2.2.2
theorem Lay.x0 (h : Lay b C) : cR C 400 (b + 1) = some (b + 2) := h.2.2.2.1.2.1
theorem Lay.x1 (h : Lay b C) : cR C 401 (b + 1) = some (b + 3) := h.2.2.2.1.2.2.1
theorem Lay.x2 (h : Lay b C) : cR C 402 (b + 1) = some (b + 4) := h.2.2.2.1.2.2.2.1
theorem Lay.x3 (h : Lay b C) : cR C 403 (b + 1) = some (b + 5) := h.2.2.2.1.2.2.2.2.1
theorem Lay.x4 (h : Lay b C) : cR C 404 (b + 1) = some (b + 6) := h.2.2.2.1.2.2.2.2.2.1
theorem Lay.x5 (h : Lay b C) : cR C 405 (b + 1) = some (b + 8) := h.2.2.2.1.2.2.2.2.2.2.1
theorem Lay.x6 (h : Lay b C) : cR C 406 (b + 1) = some (b + 9) := h.2.2.2.1.2.2.2.2.2.2.2.1
theorem Lay.x7 (h : Lay b C) : cR C 407 (b + 1) = some (b + 10) := h.2.2.2.1.2.2.2.2.2.2.2.2.1
theorem Lay.x8 (h : Lay b C) : cR C 700 (b + 10) = some (b + 11) := h.2.2.2.1.2.2.2.2.2.2.2.2.2
theorem Lay.tt (h : Lay b C) {i : Nat} (hi : i < 24) : cP C (b + 2) (ix (i : Int)) = some (b + 13 + 6 * i) := by
  rw [ix_n (by omega)]; exact (h.2.2.2.2.1 i hi).1
theorem Lay.tt2 (h : Lay b C) {i : Nat} (hi : i < 24) : cP C (b + 2) ((i : Int).toNat) = some (b + 13 + 6 * i) := (h.2.2.2.2.1 i hi).1
theorem Lay.to (h : Lay b C) {i : Nat} (hi : i < 24) : isO C (b + 13 + 6 * i) 12 := (h.2.2.2.2.1 i hi).2.1
theorem Lay.tr (h : Lay b C) {i : Nat} (hi : i < 24) : cR C 1200 (b + 13 + 6 * i) = some (b + 13 + 6 * i + 1) := (h.2.2.2.2.1 i hi).2.2.1
theorem Lay.tl (h : Lay b C) {i : Nat} (hi : i < 24) : cR C 1201 (b + 13 + 6 * i) = some (b + 13 + 6 * i + 4) := (h.2.2.2.2.1 i hi).2.2.2.1
theorem Lay.td (h : Lay b C) {i : Nat} (hi : i < 24) : cR C 1202 (b + 13 + 6 * i) = some (b + 13 + 6 * i + 5) := (h.2.2.2.2.1 i hi).2.2.2.2.1
theorem Lay.ro (h : Lay b C) {i : Nat} (hi : i < 24) : isO C (b + 13 + 6 * i + 1) 7 := (h.2.2.2.2.1 i hi).2.2.2.2.2.1
theorem Lay.rr (h : Lay b C) {i : Nat} (hi : i < 24) : cR C 700 (b + 13 + 6 * i + 1) = some (b + 13 + 6 * i + 2) := (h.2.2.2.2.1 i hi).2.2.2.2.2.2.1
theorem Lay.rw_ (h : Lay b C) {i : Nat} (hi : i < 24) : RwA C (b + 13 + 6 * i + 2) := (h.2.2.2.2.1 i hi).2.2.2.2.2.2.2.1
theorem Lay.lo (h : Lay b C) {i : Nat} (hi : i < 24) : isO C (b + 13 + 6 * i + 4) 100 := (h.2.2.2.2.1 i hi).2.2.2.2.2.2.2.2.1.1
theorem Lay.ln (h : Lay b C) {i : Nat} (hi : i < 24) : cn C (b + 13 + 6 * i + 4) = 3 := (h.2.2.2.2.1 i hi).2.2.2.2.2.2.2.2.1.2
theorem Lay.do_ (h : Lay b C) {i : Nat} (hi : i < 24) : isO C (b + 13 + 6 * i + 5) 100 := (h.2.2.2.2.1 i hi).2.2.2.2.2.2.2.2.2.1
theorem Lay.dn (h : Lay b C) {i : Nat} (hi : i < 24) : cn C (b + 13 + 6 * i + 5) = 3 := (h.2.2.2.2.1 i hi).2.2.2.2.2.2.2.2.2.2
theorem Lay.sz (h : Lay b C) : b + 854 ≤ csz C := h.2.1
theorem X11_titleOf_in (h : Lay b C) {i : Nat} (hi : i < 24) : fX11_titleOf b (i : Int) C = some (.inl (some (b + 13 + 6 * i)), C) := by
  unfold fX11_titleOf
  simp (disch := omega) only [isO, ↓bnd_eq, ↓reduceIte, ↓drf_some, ↓cal_some, ↓calx_inl, ↓calx_inr, ↓opt_some, ↓opt_none, w32_of, ix_of, inR, le_t, le_f, lt_t, lt_f, eq_t, eq_f, and_self, true_and, and_true, false_and, and_false, not_true_eq_false, not_false_eq_true, or_true, true_or, or_false, false_or, Bool.false_eq_true, cI_I1, cI_I2, cI_R, cI_E, cI_P, cR_I, cR_R1, cR_R2, cR_E, cR_P, cE_I, cE_R, cE_E1, cE_E2, cE_P, cP_I, cP_R, cP_E, cP_P1, cP_P2, cn_I, cty_I, cL_I, csz_I, csl_I, cn_R, cty_R, cL_R, csz_R, csl_R, cn_E, cty_E, cL_E, csz_E, csl_E, cn_P, cty_P, cL_P, csz_P, csl_P, h.o, ↓drf_eq h.r1, h.ot, h.nt, h.tt2 hi]
theorem X11_titleOf_out (h : Lay b C) {x : Int} (hx : I32 x) (ho : ¬ (0 ≤ x ∧ x < 24)) : fX11_titleOf b x C = some (.inr 2, cBump C) := by
  unfold fX11_titleOf
  by_cases c : x < 0
  · simp (disch := omega) only [isO, ↓bnd_eq, ↓reduceIte, ↓drf_some, ↓cal_some, ↓calx_inl, ↓calx_inr, ↓opt_some, ↓opt_none, w32_of, ix_of, inR, le_t, le_f, lt_t, lt_f, eq_t, eq_f, and_self, true_and, and_true, false_and, and_false, not_true_eq_false, not_false_eq_true, or_true, true_or, or_false, false_or, Bool.false_eq_true, cI_I1, cI_I2, cI_R, cI_E, cI_P, cR_I, cR_R1, cR_R2, cR_E, cR_P, cE_I, cE_R, cE_E1, cE_E2, cE_P, cP_I, cP_R, cP_E, cP_P1, cP_P2, cn_I, cty_I, cL_I, csz_I, csl_I, cn_R, cty_R, cL_R, csz_R, csl_R, cn_E, cty_E, cL_E, csz_E, csl_E, cn_P, cty_P, cL_P, csz_P, csl_P]
  · simp (disch := omega) only [isO, ↓bnd_eq, ↓reduceIte, ↓drf_some, ↓cal_some, ↓calx_inl, ↓calx_inr, ↓opt_some, ↓opt_none, w32_of, ix_of, inR, le_t, le_f, lt_t, lt_f, eq_t, eq_f, and_self, true_and, and_true, false_and, and_false, not_true_eq_false, not_false_eq_true, or_true, true_or, or_false, false_or, Bool.false_eq_true, cI_I1, cI_I2, cI_R, cI_E, cI_P, cR_I, cR_R1, cR_R2, cR_E, cR_P, cE_I, cE_R, cE_E1, cE_E2, cE_P, cP_I, cP_R, cP_E, cP_P1, cP_P2, cn_I, cty_I, cL_I, csz_I, csl_I, cn_R, cty_R, cL_R, csz_R, csl_R, cn_E, cty_E, cL_E, csz_E, csl_E, cn_P, cty_P, cL_P, csz_P, csl_P, h.o, ↓drf_eq h.r1, h.ot, h.nt]
theorem X11_pageOf_out (h : Lay b C) {x : Int} (hx : I32 x) (ho : ¬ (0 ≤ x ∧ x < 24)) : fX11_pageOf b x C = some (.inr 2, cBump C) := by
  unfold fX11_pageOf
  rw [calx_ofx (X11_titleOf_out h hx ho)]
  simp (disch := omega) only [isO, ↓bnd_eq, ↓reduceIte, ↓drf_some, ↓cal_some, ↓calx_inl, ↓calx_inr, ↓opt_some, ↓opt_none, w32_of, ix_of, inR, le_t, le_f, lt_t, lt_f, eq_t, eq_f, and_self, true_and, and_true, false_and, and_false, not_true_eq_false, not_false_eq_true, or_true, true_or, or_false, false_or, Bool.false_eq_true, cI_I1, cI_I2, cI_R, cI_E, cI_P, cR_I, cR_R1, cR_R2, cR_E, cR_P, cE_I, cE_R, cE_E1, cE_E2, cE_P, cP_I, cP_R, cP_E, cP_P1, cP_P2, cn_I, cty_I, cL_I, csz_I, csl_I, cn_R, cty_R, cL_R, csz_R, csl_R, cn_E, cty_E, cL_E, csz_E, csl_E, cn_P, cty_P, cL_P, csz_P, csl_P, h.o]
theorem X11_pageOf_no (h : Lay b C) {i : Nat} (hi : i < 24) (hp : cR C 1203 (b + 13 + 6 * i) = none) : fX11_pageOf b (i : Int) C = some (.inr 2, cBump C) := by
  unfold fX11_pageOf
  rw [calx_of (X11_titleOf_in h hi)]
  simp (disch := omega) only [isO, ↓bnd_eq, ↓reduceIte, ↓drf_some, ↓cal_some, ↓calx_inl, ↓calx_inr, ↓opt_some, ↓opt_none, w32_of, ix_of, inR, le_t, le_f, lt_t, lt_f, eq_t, eq_f, and_self, true_and, and_true, false_and, and_false, not_true_eq_false, not_false_eq_true, or_true, true_or, or_false, false_or, Bool.false_eq_true, cI_I1, cI_I2, cI_R, cI_E, cI_P, cR_I, cR_R1, cR_R2, cR_E, cR_P, cE_I, cE_R, cE_E1, cE_E2, cE_P, cP_I, cP_R, cP_E, cP_P1, cP_P2, cn_I, cty_I, cL_I, csz_I, csl_I, cn_R, cty_R, cL_R, csz_R, csl_R, cn_E, cty_E, cL_E, csz_E, csl_E, cn_P, cty_P, cL_P, csz_P, csl_P, h.o, h.to hi, hp]
theorem X11_pageOf_in (h : Lay b C) {i : Nat} (hi : i < 24) {p : Nat} (hp : cR C 1203 (b + 13 + 6 * i) = some p) : fX11_pageOf b (i : Int) C = some (.inl (some p), C) := by
  unfold fX11_pageOf
  rw [calx_of (X11_titleOf_in h hi)]
  simp (disch := omega) only [isO, ↓bnd_eq, ↓reduceIte, ↓drf_some, ↓cal_some, ↓calx_inl, ↓calx_inr, ↓opt_some, ↓opt_none, w32_of, ix_of, inR, le_t, le_f, lt_t, lt_f, eq_t, eq_f, and_self, true_and, and_true, false_and, and_false, not_true_eq_false, not_false_eq_true, or_true, true_or, or_false, false_or, Bool.false_eq_true, cI_I1, cI_I2, cI_R, cI_E, cI_P, cR_I, cR_R1, cR_R2, cR_E, cR_P, cE_I, cE_R, cE_E1, cE_E2, cE_P, cP_I, cP_R, cP_E, cP_P1, cP_P2, cn_I, cty_I, cL_I, csz_I, csl_I, cn_R, cty_R, cL_R, csz_R, csl_R, cn_E, cty_E, cL_E, csz_E, csl_E, cn_P, cty_P, cL_P, csz_P, csl_P, h.o, h.to hi, hp]
theorem X11_mayActAt_ (h : Lay b C) {i : Nat} (hi : i < 24) {r p : Int} (hr : cI C 1409 b = r) (hp : cI C 1204 (b + 13 + 6 * i) = p) (r1 : 0 ≤ r ∧ r ≤ 2) (p1 : 0 ≤ p ∧ p ≤ 2) : BR (fX11_mayActAt b (some (b + 13 + 6 * i)) C) C (p ≤ r) := by
  unfold fX11_mayActAt
  by_cases c : p ≤ r
  · refine Or.inl ⟨?_, c⟩
    simp (disch := omega) only [isO, ↓bnd_eq, ↓reduceIte, ↓drf_some, ↓cal_some, ↓calx_inl, ↓calx_inr, ↓opt_some, ↓opt_none, w32_of, ix_of, inR, le_t, le_f, lt_t, lt_f, eq_t, eq_f, and_self, true_and, and_true, false_and, and_false, not_true_eq_false, not_false_eq_true, or_true, true_or, or_false, false_or, Bool.false_eq_true, cI_I1, cI_I2, cI_R, cI_E, cI_P, cR_I, cR_R1, cR_R2, cR_E, cR_P, cE_I, cE_R, cE_E1, cE_E2, cE_P, cP_I, cP_R, cP_E, cP_P1, cP_P2, cn_I, cty_I, cL_I, csz_I, csl_I, cn_R, cty_R, cL_R, csz_R, csl_R, cn_E, cty_E, cL_E, csz_E, csl_E, cn_P, cty_P, cL_P, csz_P, csl_P, h.o, h.to hi, hr, hp, retZ]
  · refine Or.inr ⟨?_, c⟩
    simp (disch := omega) only [isO, ↓bnd_eq, ↓reduceIte, ↓drf_some, ↓cal_some, ↓calx_inl, ↓calx_inr, ↓opt_some, ↓opt_none, w32_of, ix_of, inR, le_t, le_f, lt_t, lt_f, eq_t, eq_f, and_self, true_and, and_true, false_and, and_false, not_true_eq_false, not_false_eq_true, or_true, true_or, or_false, false_or, Bool.false_eq_true, cI_I1, cI_I2, cI_R, cI_E, cI_P, cR_I, cR_R1, cR_R2, cR_E, cR_P, cE_I, cE_R, cE_E1, cE_E2, cE_P, cP_I, cP_R, cP_E, cP_P1, cP_P2, cn_I, cty_I, cL_I, csz_I, csl_I, cn_R, cty_R, cL_R, csz_R, csl_R, cn_E, cty_E, cL_E, csz_E, csl_E, cn_P, cty_P, cL_P, csz_P, csl_P, h.o, h.to hi, hr, hp, retZ]
theorem X11_refuseBelowZero_in {x : Int} (hx : I32 x) (h0 : 0 ≤ x) : fX11_refuseBelowZero b x C = some (.inl (), C) := by
  unfold fX11_refuseBelowZero
  simp (disch := omega) only [isO, ↓bnd_eq, ↓reduceIte, ↓drf_some, ↓cal_some, ↓calx_inl, ↓calx_inr, ↓opt_some, ↓opt_none, w32_of, ix_of, inR, le_t, le_f, lt_t, lt_f, eq_t, eq_f, and_self, true_and, and_true, false_and, and_false, not_true_eq_false, not_false_eq_true, or_true, true_or, or_false, false_or, Bool.false_eq_true, cI_I1, cI_I2, cI_R, cI_E, cI_P, cR_I, cR_R1, cR_R2, cR_E, cR_P, cE_I, cE_R, cE_E1, cE_E2, cE_P, cP_I, cP_R, cP_E, cP_P1, cP_P2, cn_I, cty_I, cL_I, csz_I, csl_I, cn_R, cty_R, cL_R, csz_R, csl_R, cn_E, cty_E, cL_E, csz_E, csl_E, cn_P, cty_P, cL_P, csz_P, csl_P]
theorem X11_refuseBelowZero_out {x : Int} (hx : I32 x) (h0 : x < 0) : fX11_refuseBelowZero b x C = some (.inr 2, cBump C) := by
  unfold fX11_refuseBelowZero
  simp (disch := omega) only [isO, ↓bnd_eq, ↓reduceIte, ↓drf_some, ↓cal_some, ↓calx_inl, ↓calx_inr, ↓opt_some, ↓opt_none, w32_of, ix_of, inR, le_t, le_f, lt_t, lt_f, eq_t, eq_f, and_self, true_and, and_true, false_and, and_false, not_true_eq_false, not_false_eq_true, or_true, true_or, or_false, false_or, Bool.false_eq_true, cI_I1, cI_I2, cI_R, cI_E, cI_P, cR_I, cR_R1, cR_R2, cR_E, cR_P, cE_I, cE_R, cE_E1, cE_E2, cE_P, cP_I, cP_R, cP_E, cP_P1, cP_P2, cn_I, cty_I, cL_I, csz_I, csl_I, cn_R, cty_R, cL_R, csz_R, csl_R, cn_E, cty_E, cL_E, csz_E, csl_E, cn_P, cty_P, cL_P, csz_P, csl_P]
/-- only what tells that a rendering is stale -/
def sSt (b i k a : Nat) : Prop := i = 0 ∧ k = 702 ∧ ∃ t, t < 24 ∧ a = b + 13 + 6 * t + 1
theorem sSt.mu {b i k a : Nat} (h : sSt b i k a) : Mu b i k a := Or.inl h.1
theorem X11_noteT_loop {test : Nat → Bool} {BODY0 : (Int → Cd → Option (Unit × Cd)) → Int → Cd → Option (Unit × Cd)}
   (hb : ∀ (L : Int → Cd → Option (Unit × Cd)) (i : Nat) (C1 : Cd), Lay b C1 → (∀ j, j < 24 → cI C1 705 (b + 13 + 6 * j + 1) = cI C 705 (b + 13 + 6 * j + 1)) → (i < 24 → BODY0 L (i : Int) C1 = L ((i : Int) + 1) (if test i = true then cSetI C1 702 (b + 13 + 6 * i + 1) 1 else C1)) ∧ (i = 24 → BODY0 L (i : Int) C1 = some ((), C1)))
   (h : Lay b C) : ∃ C', lpn (fun (_ : Int) (_ : Cd) => (none : Option (Unit × Cd))) BODY0 FU 0 C = some ((), C') ∧ Fp (sSt b) C C' ∧ csz C' = csz C ∧ csl C' = csl C ∧ ∀ j, j < 24 → cI C' 702 (b + 13 + 6 * j + 1) = if test j = true then 1 else cI C 702 (b + 13 + 6 * j + 1) := by
  have key := lpn_rule (z := fun (_ : Int) (_ : Cd) => (none : Option (Unit × Cd))) (body := BODY0) (P := fun mm (L : Int → Cd → Option (Unit × Cd)) => ∀ (i : Nat) (C1 : Cd), i ≤ 24 → 24 - i < mm → Lay b C1 → (∀ j, j < 24 → cI C1 705 (b + 13 + 6 * j + 1) = cI C 705 (b + 13 + 6 * j + 1)) →
     ∃ C', L (i : Int) C1 = some ((), C') ∧ Fp (sSt b) C1 C' ∧ csz C' = csz C1 ∧ csl C' = csl C1 ∧ ∀ j, j < 24 → cI C' 702 (b + 13 + 6 * j + 1) = if (decide (i ≤ j) && test j) = true then 1 else cI C1 702 (b + 13 + 6 * j + 1)) (fun i _ _ h => absurd h (Nat.not_lt_zero _)) (fun mm L hL i C1 hi hm h1 hk => ?_) FU 0 C (Nat.zero_le _) (by unfold FU; omega) h (fun j hj => rfl)
  · obtain ⟨C', e, f, s, l, r⟩ := key
    exact ⟨C', e, f, s, l, fun j hj => (r j hj).trans (by rw [decide_eq_true (Nat.zero_le j), Bool.true_and])⟩
  · obtain ⟨b1, b2⟩ := hb L i C1 h1 hk
    rcases Nat.lt_or_ge i 24 with hlt | hge
    · rw [b1 hlt]
      have f1 : Fp (sSt b) C1 (if test i = true then cSetI C1 702 (b + 13 + 6 * i + 1) 1 else C1) := by
        split
        · exact Fp.I h1.W _ _ _ ⟨rfl, rfl, i, hlt, rfl⟩
        · exact Fp.rf h1.W
      have s1 : csz (if test i = true then cSetI C1 702 (b + 13 + 6 * i + 1) 1 else C1) = csz C1 := by split <;> rfl
      have l1 : csl (if test i = true then cSetI C1 702 (b + 13 + 6 * i + 1) 1 else C1) = csl C1 := by split <;> rfl
      have k1 : ∀ j, j < 24 → cI (if test i = true then cSetI C1 702 (b + 13 + 6 * i + 1) 1 else C1) 705 (b + 13 + 6 * j + 1) = cI C 705 (b + 13 + 6 * j + 1) := fun j hj => by
        split
        · rw [cI_I2 _ _ (Or.inl (by decide))]; exact hk j hj
        · exact hk j hj
      have v1 : ∀ j, j < 24 → cI (if test i = true then cSetI C1 702 (b + 13 + 6 * i + 1) 1 else C1) 702 (b + 13 + 6 * j + 1) = if j = i ∧ test i = true then 1 else cI C1 702 (b + 13 + 6 * j + 1) := fun j hj => by
        by_cases c : test i = true
        · rw [if_pos c]
          by_cases e : j = i
          · subst e; rw [if_pos ⟨rfl, c⟩]; exact cI_I1 _ _ _ _
          · rw [if_neg (fun z => e z.1)]; exact cI_I2 _ _ (Or.inr (by omega))
        · rw [if_neg c, if_neg (fun z => c z.2)]
      obtain ⟨C', e, f, s, l, r⟩ := hL (i + 1) _ hlt (by omega) (h1.keep (f1.mono (fun _ _ _ _ z => z.mu))) k1
      refine ⟨C', e, f1.tr f, s.trans s1, l.trans l1, fun j hj => ?_⟩
      rw [r j hj, v1 j hj]
      by_cases c1 : i + 1 ≤ j
      · rw [decide_eq_true c1, decide_eq_true (by omega : i ≤ j), if_neg (fun z => by omega : ¬ (j = i ∧ test i = true))]
      · rw [decide_eq_false c1, Bool.false_and, ite_ff]
        by_cases c2 : j = i
        · subst c2
          rw [decide_eq_true (Nat.le_refl _), Bool.true_and]
          by_cases c3 : test j = true
          · rw [if_pos ⟨rfl, c3⟩, if_pos c3]
          · rw [if_neg (fun z => c3 z.2), if_neg c3]
        · rw [decide_eq_false (by omega), Bool.false_and, ite_ff, if_neg (fun z => c2 z.1)]
    · have e : i = 24 := by omega
      subst e
      rw [b2 rfl]
      refine ⟨C1, rfl, Fp.rf h1.W, rfl, rfl, fun j hj => ?_⟩
      rw [decide_eq_false (by omega), Bool.false_and, ite_ff]
theorem X11_noteM_loop {test : Nat → Bool} {BODY0 : (Int → Cd → Option (Unit × Cd)) → Int → Cd → Option (Unit × Cd)}
   (hb : ∀ (L : Int → Cd → Option (Unit × Cd)) (i : Nat) (C1 : Cd), Lay b C1 → (∀ j, j < 24 → cI C1 706 (b + 13 + 6 * j + 1) = cI C 706 (b + 13 + 6 * j + 1)) → (i < 24 → BODY0 L (i : Int) C1 = L ((i : Int) + 1) (if test i = true then cSetI C1 702 (b + 13 + 6 * i + 1) 1 else C1)) ∧ (i = 24 → BODY0 L (i : Int) C1 = some ((), C1)))
   (h : Lay b C) : ∃ C', lpn (fun (_ : Int) (_ : Cd) => (none : Option (Unit × Cd))) BODY0 FU 0 C = some ((), C') ∧ Fp (sSt b) C C' ∧ csz C' = csz C ∧ csl C' = csl C ∧ ∀ j, j < 24 → cI C' 702 (b + 13 + 6 * j + 1) = if test j = true then 1 else cI C 702 (b + 13 + 6 * j + 1) := by
  have key := lpn_rule (z := fun (_ : Int) (_ : Cd) => (none : Option (Unit × Cd))) (body := BODY0) (P := fun mm (L : Int → Cd → Option (Unit × Cd)) => ∀ (i : Nat) (C1 : Cd), i ≤ 24 → 24 - i < mm → Lay b C1 → (∀ j, j < 24 → cI C1 706 (b + 13 + 6 * j + 1) = cI C 706 (b + 13 + 6 * j + 1)) →
     ∃ C', L (i : Int) C1 = some ((), C') ∧ Fp (sSt b) C1 C' ∧ csz C' = csz C1 ∧ csl C' = csl C1 ∧ ∀ j, j < 24 → cI C' 702 (b + 13 + 6 * j + 1) = if (decide (i ≤ j) && test j) = true then 1 else cI C1 702 (b + 13 + 6 * j + 1)) (fun i _ _ h => absurd h (Nat.not_lt_zero _)) (fun mm L hL i C1 hi hm h1 hk => ?_) FU 0 C (Nat.zero_le _) (by unfold FU; omega) h (fun j hj => rfl)
  · obtain ⟨C', e, f, s, l, r⟩ := key
    exact ⟨C', e, f, s, l, fun j hj => (r j hj).trans (by rw [decide_eq_true (Nat.zero_le j), Bool.true_and])⟩
  · obtain ⟨b1, b2⟩ := hb L i C1 h1 hk
    rcases Nat.lt_or_ge i 24 with hlt | hge
    · rw [b1 hlt]
      have f1 : Fp (sSt b) C1 (if test i = true then cSetI C1 702 (b + 13 + 6 * i + 1) 1 else C1) := by
        split
        · exact Fp.I h1.W _ _ _ ⟨rfl, rfl, i, hlt, rfl⟩
        · exact Fp.rf h1.W
      have s1 : csz (if test i = true then cSetI C1 702 (b + 13 + 6 * i + 1) 1 else C1) = csz C1 := by split <;> rfl
      have l1 : csl (if test i = true then cSetI C1 702 (b + 13 + 6 * i + 1) 1 else C1) = csl C1 := by split <;> rfl
      have k1 : ∀ j, j < 24 → cI (if test i = true then cSetI C1 702 (b + 13 + 6 * i + 1) 1 else C1) 706 (b + 13 + 6 * j + 1) = cI C 706 (b + 13 + 6 * j + 1) := fun j hj => by
        split
        · rw [cI_I2 _ _ (Or.inl (by decide))]; exact hk j hj
        · exact hk j hj
      have v1 : ∀ j, j < 24 → cI (if test i = true then cSetI C1 702 (b + 13 + 6 * i + 1) 1 else C1) 702 (b + 13 + 6 * j + 1) = if j = i ∧ test i = true then 1 else cI C1 702 (b + 13 + 6 * j + 1) := fun j hj => by
        by_cases c : test i = true
        · rw [if_pos c]
          by_cases e : j = i
          · subst e; rw [if_pos ⟨rfl, c⟩]; exact cI_I1 _ _ _ _
          · rw [if_neg (fun z => e z.1)]; exact cI_I2 _ _ (Or.inr (by omega))
        · rw [if_neg c, if_neg (fun z => c z.2)]
      obtain ⟨C', e, f, s, l, r⟩ := hL (i + 1) _ hlt (by omega) (h1.keep (f1.mono (fun _ _ _ _ z => z.mu))) k1
      refine ⟨C', e, f1.tr f, s.trans s1, l.trans l1, fun j hj => ?_⟩
      rw [r j hj, v1 j hj]
      by_cases c1 : i + 1 ≤ j
      · rw [decide_eq_true c1, decide_eq_true (by omega : i ≤ j), if_neg (fun z => by omega : ¬ (j = i ∧ test i = true))]
      · rw [decide_eq_false c1, Bool.false_and, ite_ff]
        by_cases c2 : j = i
        · subst c2
          rw [decide_eq_true (Nat.le_refl _), Bool.true_and]
          by_cases c3 : test j = true
          · rw [if_pos ⟨rfl, c3⟩, if_pos c3]
          · rw [if_neg (fun z => c3 z.2), if_neg c3]
        · rw [decide_eq_false (by omega), Bool.false_and, ite_ff, if_neg (fun z => c2 z.1)]
    · have e : i = 24 := by omega
      subst e
      rw [b2 rfl]
      refine ⟨C1, rfl, Fp.rf h1.W, rfl, rfl, fun j hj => ?_⟩
      rw [decide_eq_false (by omega), Bool.false_and, ite_ff]
theorem X11_noteU_loop {test : Nat → Bool} {BODY0 : (Int → Cd → Option (Unit × Cd)) → Int → Cd → Option (Unit × Cd)}
   (hb : ∀ (L : Int → Cd → Option (Unit × Cd)) (i : Nat) (C1 : Cd), Lay b C1 → (∀ j, j < 24 → cI C1 707 (b + 13 + 6 * j + 1) = cI C 707 (b + 13 + 6 * j + 1)) → (i < 24 → BODY0 L (i : Int) C1 = L ((i : Int) + 1) (if test i = true then cSetI C1 702 (b + 13 + 6 * i + 1) 1 else C1)) ∧ (i = 24 → BODY0 L (i : Int) C1 = some ((), C1)))
   (h : Lay b C) : ∃ C', lpn (fun (_ : Int) (_ : Cd) => (none : Option (Unit × Cd))) BODY0 FU 0 C = some ((), C') ∧ Fp (sSt b) C C' ∧ csz C' = csz C ∧ csl C' = csl C ∧ ∀ j, j < 24 → cI C' 702 (b + 13 + 6 * j + 1) = if test j = true then 1 else cI C 702 (b + 13 + 6 * j + 1) := by
  have key := lpn_rule (z := fun (_ : Int) (_ : Cd) => (none : Option (Unit × Cd))) (body := BODY0) (P := fun mm (L : Int → Cd → Option (Unit × Cd)) => ∀ (i : Nat) (C1 : Cd), i ≤ 24 → 24 - i < mm → Lay b C1 → (∀ j, j < 24 → cI C1 707 (b + 13 + 6 * j + 1) = cI C 707 (b + 13 + 6 * j + 1)) →
     ∃ C', L (i : Int) C1 = some ((), C') ∧ Fp (sSt b) C1 C' ∧ csz C' = csz C1 ∧ csl C' = csl C1 ∧ ∀ j, j < 24 → cI C' 702 (b + 13 + 6 * j + 1) = if (decide (i ≤ j) && test j) = true then 1 else cI C1 702 (b + 13 + 6 * j + 1)) (fun i _ _ h => absurd h (Nat.not_lt_zero _)) (fun mm L hL i C1 hi hm h1 hk => ?_) FU 0 C (Nat.zero_le _) (by unfold FU; omega) h (fun j hj => rfl)
  · obtain ⟨C', e, f, s, l, r⟩ := key
    exact ⟨C', e, f, s, l, fun j hj => (r j hj).trans (by rw [decide_eq_true (Nat.zero_le j), Bool.true_and])⟩
  · obtain ⟨b1, b2⟩ := hb L i C1 h1 hk
    rcases Nat.lt_or_ge i 24 with hlt | hge
    · rw [b1 hlt]
      have f1 : Fp (sSt b) C1 (if test i = true then cSetI C1 702 (b + 13 + 6 * i + 1) 1 else C1) := by
        split
        · exact Fp.I h1.W _ _ _ ⟨rfl, rfl, i, hlt, rfl⟩
        · exact Fp.rf h1.W
      have s1 : csz (if test i = true then cSetI C1 702 (b + 13 + 6 * i + 1) 1 else C1) = csz C1 := by split <;> rfl
      have l1 : csl (if test i = true then cSetI C1 702 (b + 13 + 6 * i + 1) 1 else C1) = csl C1 := by split <;> rfl
      have k1 : ∀ j, j < 24 → cI (if test i = true then cSetI C1 702 (b + 13 + 6 * i + 1) 1 else C1) 707 (b + 13 + 6 * j + 1) = cI C 707 (b + 13 + 6 * j + 1) := fun j hj => by
        split
        · rw [cI_I2 _ _ (Or.inl (by decide))]; exact hk j hj
        · exact hk j hj
      have v1 : ∀ j, j < 24 → cI (if test i = true then cSetI C1 702 (b + 13 + 6 * i + 1) 1 else C1) 702 (b + 13 + 6 * j + 1) = if j = i ∧ test i = true then 1 else cI C1 702 (b + 13 + 6 * j + 1) := fun j hj => by
        by_cases c : test i = true
        · rw [if_pos c]
          by_cases e : j = i
          · subst e; rw [if_pos ⟨rfl, c⟩]; exact cI_I1 _ _ _ _
          · rw [if_neg (fun z => e z.1)]; exact cI_I2 _ _ (Or.inr (by omega))
        · rw [if_neg c, if_neg (fun z => c z.2)]
      obtain ⟨C', e, f, s, l, r⟩ := hL (i + 1) _ hlt (by omega) (h1.keep (f1.mono (fun _ _ _ _ z => z.mu))) k1
      refine ⟨C', e, f1.tr f, s.trans s1, l.trans l1, fun j hj => ?_⟩
      rw [r j hj, v1 j hj]
      by_cases c1 : i + 1 ≤ j
      · rw [decide_eq_true c1, decide_eq_true (by omega : i ≤ j), if_neg (fun z => by omega : ¬ (j = i ∧ test i = true))]
      · rw [decide_eq_false c1, Bool.false_and, ite_ff]
        by_cases c2 : j = i
        · subst c2
          rw [decide_eq_true (Nat.le_refl _), Bool.true_and]
          by_cases c3 : test j = true
          · rw [if_pos ⟨rfl, c3⟩, if_pos c3]
          · rw [if_neg (fun z => c3 z.2), if_neg c3]
        · rw [decide_eq_false (by omega), Bool.false_and, ite_ff, if_neg (fun z => c2 z.1)]
    · have e : i = 24 := by omega
      subst e
      rw [b2 rfl]
      refine ⟨C1, rfl, Fp.rf h1.W, rfl, rfl, fun j hj => ?_⟩
      rw [decide_eq_false (by omega), Bool.false_and, ite_ff]
theorem X11_noteMemberChange_ (h : Lay b C) {cs : Nat} {ct : Nat → Nat} (hcs : cs < 256) (hct : ∀ j, j < 24 → cI C 706 (b + 13 + 6 * j + 1) = (ct j : Int) ∧ ct j < 256) :
   ∃ C', fX11_noteMemberChange b (cs : Int) C = some ((), C') ∧ Fp (sSt b) C C' ∧ csz C' = csz C ∧ csl C' = csl C ∧ ∀ j, j < 24 → cI C' 702 (b + 13 + 6 * j + 1) = if (decide (ct j &&& cs ≠ 0)) = true then 1 else cI C 702 (b + 13 + 6 * j + 1) := by
  unfold fX11_noteMemberChange
  rw [bnd_eq]
  refine X11_noteM_loop (b := b) (C := C) (test := fun j => decide (ct j &&& cs ≠ 0)) (fun L i C1 h1 hk => ⟨fun hi => ?_, fun hi => ?_⟩) h
  · have c1 := hct i hi
    have hk1 := (hk i hi).trans c1.1
    have ha : andI (ct i : Int) (cs : Int) = ((ct i &&& cs : Nat) : Int) := andI_N (by omega)
    have hb : ct i &&& cs < 256 := Nat.lt_of_le_of_lt Nat.and_le_left c1.2
    by_cases c : ct i &&& cs = 0
    · rw [decide_eq_false (fun z => z c), ite_ff]
      simp (disch := omega) only [isO, ↓bnd_eq, ↓reduceIte, ↓drf_some, ↓cal_some, ↓calx_inl, ↓calx_inr, ↓opt_some, ↓opt_none, w32_of, ix_of, inR, le_t, le_f, lt_t, lt_f, eq_t, eq_f, and_self, true_and, and_true, false_and, and_false, not_true_eq_false, not_false_eq_true, or_true, true_or, or_false, false_or, Bool.false_eq_true, cI_I1, cI_I2, cI_R, cI_E, cI_P, cR_I, cR_R1, cR_R2, cR_E, cR_P, cE_I, cE_R, cE_E1, cE_E2, cE_P, cP_I, cP_R, cP_E, cP_P1, cP_P2, cn_I, cty_I, cL_I, csz_I, csl_I, cn_R, cty_R, cL_R, csz_R, csl_R, cn_E, cty_E, cL_E, csz_E, csl_E, cn_P, cty_P, cL_P, csz_P, csl_P, h1.o, ↓drf_eq h1.r1, h1.ot, h1.nt, ↓drf_eq (h1.tt hi), drf_eq (h1.tt2 hi), h1.to hi, ↓drf_eq (h1.tr hi), h1.ro hi, hk1, ha]
    · rw [decide_eq_true c, ite_tt]
      simp (disch := omega) only [isO, ↓bnd_eq, ↓reduceIte, ↓drf_some, ↓cal_some, ↓calx_inl, ↓calx_inr, ↓opt_some, ↓opt_none, w32_of, ix_of, inR, le_t, le_f, lt_t, lt_f, eq_t, eq_f, and_self, true_and, and_true, false_and, and_false, not_true_eq_false, not_false_eq_true, or_true, true_or, or_false, false_or, Bool.false_eq_true, cI_I1, cI_I2, cI_R, cI_E, cI_P, cR_I, cR_R1, cR_R2, cR_E, cR_P, cE_I, cE_R, cE_E1, cE_E2, cE_P, cP_I, cP_R, cP_E, cP_P1, cP_P2, cn_I, cty_I, cL_I, csz_I, csl_I, cn_R, cty_R, cL_R, csz_R, csl_R, cn_E, cty_E, cL_E, csz_E, csl_E, cn_P, cty_P, cL_P, csz_P, csl_P, h1.o, ↓drf_eq h1.r1, h1.ot, h1.nt, ↓drf_eq (h1.tt hi), drf_eq (h1.tt2 hi), h1.to hi, ↓drf_eq (h1.tr hi), h1.ro hi, hk1, ha]
  · subst hi
    simp (disch := omega) only [isO, ↓bnd_eq, ↓reduceIte, ↓drf_some, ↓cal_some, ↓calx_inl, ↓calx_inr, ↓opt_some, ↓opt_none, w32_of, ix_of, inR, le_t, le_f, lt_t, lt_f, eq_t, eq_f, and_self, true_and, and_true, false_and, and_false, not_true_eq_false, not_false_eq_true, or_true, true_or, or_false, false_or, Bool.false_eq_true, cI_I1, cI_I2, cI_R, cI_E, cI_P, cR_I, cR_R1, cR_R2, cR_E, cR_P, cE_I, cE_R, cE_E1, cE_E2, cE_P, cP_I, cP_R, cP_E, cP_P1, cP_P2, cn_I, cty_I, cL_I, csz_I, csl_I, cn_R, cty_R, cL_R, csz_R, csl_R, cn_E, cty_E, cL_E, csz_E, csl_E, cn_P, cty_P, cL_P, csz_P, csl_P, h1.o, ↓drf_eq h1.r1, h1.ot, h1.nt]
theorem X11_noteTitleChange_ (h : Lay b C) {t : Nat} (ht : t < 24) {rd : Nat → Nat} (hrd : ∀ j, j < 24 → cI C 705 (b + 13 + 6 * j + 1) = (rd j : Int) ∧ rd j < 16777216) :
   ∃ C', fX11_noteTitleChange b (t : Int) C = some ((), C') ∧ Fp (sSt b) C C' ∧ csz C' = csz C ∧ csl C' = csl C ∧ ∀ j, j < 24 → cI C' 702 (b + 13 + 6 * j + 1) = if (decide (j = t) || (rd j).testBit t) = true then 1 else cI C 702 (b + 13 + 6 * j + 1) := by
  have f1 : Fp (sSt b) C (cSetI C 702 (b + 13 + 6 * t + 1) 1) := Fp.I h.W _ _ _ ⟨rfl, rfl, t, ht, rfl⟩
  have h1 := h.keep (f1.mono (fun _ _ _ _ z => z.mu))
  have hrd1 : ∀ j, j < 24 → cI (cSetI C 702 (b + 13 + 6 * t + 1) 1) 705 (b + 13 + 6 * j + 1) = (rd j : Int) := fun j hj => (cI_I2 _ _ (Or.inl (by decide))).trans (hrd j hj).1
  unfold fX11_noteTitleChange
  rw [if_pos h.o, bnd_eq, drf_eq h.r1, if_pos ⟨h.ot, by rw [h.nt]; exact ⟨by rw [w32_n (by omega)]; omega, by rw [w32_n (by omega)]; omega⟩⟩, bnd_eq, drf_eq (h.tt ht), if_pos (h.to ht), bnd_eq, drf_eq (h.tr ht), if_pos (h.ro ht), bnd_eq, bnd_eq]
  refine Exists.elim (X11_noteT_loop (b := b) (C := cSetI C 702 (b + 13 + 6 * t + 1) 1) (test := fun j => (rd j).testBit t) ?_ h1) (fun C' q => ⟨C', q.1, f1.tr q.2.1, q.2.2.1, q.2.2.2.1, fun j hj => ?_⟩)
  · refine fun L i C1 h1 hk => ⟨fun hi => ?_, fun hi => ?_⟩
    · have c1 := hrd i hi
      have hk1 := (hk i hi).trans (hrd1 i hi)
      have ha := X11_has_ (s := rd i) (e := t) (C := C1) (by omega) (by omega)
      by_cases c : (rd i).testBit t = true
      · rw [c, ite_tt] at ha ⊢
        simp (disch := omega) only [isO, ↓bnd_eq, ↓reduceIte, ↓drf_some, ↓cal_some, ↓calx_inl, ↓calx_inr, ↓opt_some, ↓opt_none, w32_of, ix_of, inR, le_t, le_f, lt_t, lt_f, eq_t, eq_f, and_self, true_and, and_true, false_and, and_false, not_true_eq_false, not_false_eq_true, or_true, true_or, or_false, false_or, Bool.false_eq_true, cI_I1, cI_I2, cI_R, cI_E, cI_P, cR_I, cR_R1, cR_R2, cR_E, cR_P, cE_I, cE_R, cE_E1, cE_E2, cE_P, cP_I, cP_R, cP_E, cP_P1, cP_P2, cn_I, cty_I, cL_I, csz_I, csl_I, cn_R, cty_R, cL_R, csz_R, csl_R, cn_E, cty_E, cL_E, csz_E, csl_E, cn_P, cty_P, cL_P, csz_P, csl_P, h1.o, ↓drf_eq h1.r1, h1.ot, h1.nt, ↓drf_eq (h1.tt hi), drf_eq (h1.tt2 hi), h1.to hi, ↓drf_eq (h1.tr hi), h1.ro hi, hk1, ↓cal_of ha]
      · rw [eq_false_of_ne_true c, ite_ff] at ha ⊢
        simp (disch := omega) only [isO, ↓bnd_eq, ↓reduceIte, ↓drf_some, ↓cal_some, ↓calx_inl, ↓calx_inr, ↓opt_some, ↓opt_none, w32_of, ix_of, inR, le_t, le_f, lt_t, lt_f, eq_t, eq_f, and_self, true_and, and_true, false_and, and_false, not_true_eq_false, not_false_eq_true, or_true, true_or, or_false, false_or, Bool.false_eq_true, cI_I1, cI_I2, cI_R, cI_E, cI_P, cR_I, cR_R1, cR_R2, cR_E, cR_P, cE_I, cE_R, cE_E1, cE_E2, cE_P, cP_I, cP_R, cP_E, cP_P1, cP_P2, cn_I, cty_I, cL_I, csz_I, csl_I, cn_R, cty_R, cL_R, csz_R, csl_R, cn_E, cty_E, cL_E, csz_E, csl_E, cn_P, cty_P, cL_P, csz_P, csl_P, h1.o, ↓drf_eq h1.r1, h1.ot, h1.nt, ↓drf_eq (h1.tt hi), drf_eq (h1.tt2 hi), h1.to hi, ↓drf_eq (h1.tr hi), h1.ro hi, hk1, ↓cal_of ha]
    · subst hi
      simp (disch := omega) only [isO, ↓bnd_eq, ↓reduceIte, ↓drf_some, ↓cal_some, ↓calx_inl, ↓calx_inr, ↓opt_some, ↓opt_none, w32_of, ix_of, inR, le_t, le_f, lt_t, lt_f, eq_t, eq_f, and_self, true_and, and_true, false_and, and_false, not_true_eq_false, not_false_eq_true, or_true, true_or, or_false, false_or, Bool.false_eq_true, cI_I1, cI_I2, cI_R, cI_E, cI_P, cR_I, cR_R1, cR_R2, cR_E, cR_P, cE_I, cE_R, cE_E1, cE_E2, cE_P, cP_I, cP_R, cP_E, cP_P1, cP_P2, cn_I, cty_I, cL_I, csz_I, csl_I, cn_R, cty_R, cL_R, csz_R, csl_R, cn_E, cty_E, cL_E, csz_E, csl_E, cn_P, cty_P, cL_P, csz_P, csl_P, h1.o, ↓drf_eq h1.r1, h1.ot, h1.nt]
  · rw [q.2.2.2.2 j hj]
    by_cases c : (rd j).testBit t = true
    · rw [c, Bool.or_true, ite_tt]
      rfl
    · rw [eq_false_of_ne_true c, Bool.or_false, ite_ff]
      by_cases c2 : j = t
      · subst c2
        rw [decide_eq_true rfl, ite_tt]
        exact cI_I1 _ _ _ _
      · rw [decide_eq_false c2, ite_ff]
        exact cI_I2 _ _ (Or.inr (by omega))
theorem X11_noteModuleChange_ (h : Lay b C) {t : Nat} (ht : t < 4) {us : Nat → Nat} (hus : ∀ j, j < 24 → cI C 707 (b + 13 + 6 * j + 1) = (us j : Int) ∧ us j < 16) :
   ∃ C', fX11_noteModuleChange b (t : Int) C = some ((), C') ∧ Fp (sSt b) C C' ∧ csz C' = csz C ∧ csl C' = csl C ∧ ∀ j, j < 24 → cI C' 702 (b + 13 + 6 * j + 1) = if (us j).testBit t = true then 1 else cI C 702 (b + 13 + 6 * j + 1) := by
  unfold fX11_noteModuleChange
  rw [bnd_eq]
  refine X11_noteU_loop (b := b) (C := C) (test := fun j => (us j).testBit t) (fun L i C1 h1 hk => ⟨fun hi => ?_, fun hi => ?_⟩) h
  · have c1 := hus i hi
    have hk1 := (hk i hi).trans c1.1
    have ha := X11_has_ (s := us i) (e := t) (C := C1) (by omega) (by omega)
    by_cases c : (us i).testBit t = true
    · rw [c, ite_tt] at ha ⊢
      simp (disch := omega) only [isO, ↓bnd_eq, ↓reduceIte, ↓drf_some, ↓cal_some, ↓calx_inl, ↓calx_inr, ↓opt_some, ↓opt_none, w32_of, ix_of, inR, le_t, le_f, lt_t, lt_f, eq_t, eq_f, and_self, true_and, and_true, false_and, and_false, not_true_eq_false, not_false_eq_true, or_true, true_or, or_false, false_or, Bool.false_eq_true, cI_I1, cI_I2, cI_R, cI_E, cI_P, cR_I, cR_R1, cR_R2, cR_E, cR_P, cE_I, cE_R, cE_E1, cE_E2, cE_P, cP_I, cP_R, cP_E, cP_P1, cP_P2, cn_I, cty_I, cL_I, csz_I, csl_I, cn_R, cty_R, cL_R, csz_R, csl_R, cn_E, cty_E, cL_E, csz_E, csl_E, cn_P, cty_P, cL_P, csz_P, csl_P, h1.o, ↓drf_eq h1.r1, h1.ot, h1.nt, ↓drf_eq (h1.tt hi), drf_eq (h1.tt2 hi), h1.to hi, ↓drf_eq (h1.tr hi), h1.ro hi, hk1, ↓cal_of ha]
    · rw [eq_false_of_ne_true c, ite_ff] at ha ⊢
      simp (disch := omega) only [isO, ↓bnd_eq, ↓reduceIte, ↓drf_some, ↓cal_some, ↓calx_inl, ↓calx_inr, ↓opt_some, ↓opt_none, w32_of, ix_of, inR, le_t, le_f, lt_t, lt_f, eq_t, eq_f, and_self, true_and, and_true, false_and, and_false, not_true_eq_false, not_false_eq_true, or_true, true_or, or_false, false_or, Bool.false_eq_true, cI_I1, cI_I2, cI_R, cI_E, cI_P, cR_I, cR_R1, cR_R2, cR_E, cR_P, cE_I, cE_R, cE_E1, cE_E2, cE_P, cP_I, cP_R, cP_E, cP_P1, cP_P2, cn_I, cty_I, cL_I, csz_I, csl_I, cn_R, cty_R, cL_R, csz_R, csl_R, cn_E, cty_E, cL_E, csz_E, csl_E, cn_P, cty_P, cL_P, csz_P, csl_P, h1.o, ↓drf_eq h1.r1, h1.ot, h1.nt, ↓drf_eq (h1.tt hi), drf_eq (h1.tt2 hi), h1.to hi, ↓drf_eq (h1.tr hi), h1.ro hi, hk1, ↓cal_of ha]
  · subst hi
    simp (disch := omega) only [isO, ↓bnd_eq, ↓reduceIte, ↓drf_some, ↓cal_some, ↓calx_inl, ↓calx_inr, ↓opt_some, ↓opt_none, w32_of, ix_of, inR, le_t, le_f, lt_t, lt_f, eq_t, eq_f, and_self, true_and, and_true, false_and, and_false, not_true_eq_false, not_false_eq_true, or_true, true_or, or_false, false_or, Bool.false_eq_true, cI_I1, cI_I2, cI_R, cI_E, cI_P, cR_I, cR_R1, cR_R2, cR_E, cR_P, cE_I, cE_R, cE_E1, cE_E2, cE_P, cP_I, cP_R, cP_E, cP_P1, cP_P2, cn_I, cty_I, cL_I, csz_I, csl_I, cn_R, cty_R, cL_R, csz_R, csl_R, cn_E, cty_E, cL_E, csz_E, csl_E, cn_P, cty_P, cL_P, csz_P, csl_P, h1.o, ↓drf_eq h1.r1, h1.ot, h1.nt]
end LF
