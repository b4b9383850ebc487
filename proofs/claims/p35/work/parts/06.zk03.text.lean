/-! TEXTS: the class's text objects; a text's tokens are a function, with how many there are -/
def TxA (C : Cd) (a cap : Nat) : Prop := isO C a 11 ∧ cR C 1100 a = some (a + 1) ∧ cR C 1101 a = some (a + 2) ∧ isO C (a + 1) 100 ∧ isO C (a + 2) 100 ∧ cn C (a + 1) = cap ∧ cn C (a + 2) = cap ∧ cap ≤ 90
def Tks (g : Nat → Int) (n : Nat) : Prop := ∀ k, k < n → 0 ≤ g k ∧ g k < 14000
def TxI (C : Cd) (a cap n : Nat) : Prop := TxA C a cap ∧ cI C 1102 a = (n : Int) ∧ n ≤ cap ∧ Tks (cE C (a + 1)) n
def op (k : Int) : Prop := k = 2 ∨ k = 3 ∨ k = 4 ∨ k = 8 ∨ k = 9 ∨ k = 10
def op_dec (k : Int) : Decidable (op k) := inferInstanceAs (Decidable (k = 2 ∨ k = 3 ∨ k = 4 ∨ k = 8 ∨ k = 9 ∨ k = 10))
def opB (k : Int) : Bool := decide (k = 2 ∨ k = 3 ∨ k = 4 ∨ k = 8 ∨ k = 9 ∨ k = 10)
def mkB (k : Int) : Bool := decide (k = 5 ∨ k = 6)
section TXT
variable {C : Cd} {a cap n : Nat}
theorem X8_codeAt_in (h : TxI C a cap n) {k : Nat} (hk : k < n) : fX8_codeAt a (k : Int) C = some (cE C (a + 1) k, C) := by
  obtain ⟨⟨h1, h2, h3, h4, h5, h6, h7, h8⟩, h9, h10, h11⟩ := h
  unfold fX8_codeAt
  simp (disch := omega) only [isO, ↓bnd_eq, ↓reduceIte, ↓drf_some, ↓cal_some, ↓calx_inl, ↓calx_inr, ↓opt_some, ↓opt_none, w32_of, ix_of, inR, le_t, le_f, lt_t, lt_f, eq_t, eq_f, and_self, true_and, and_true, false_and, and_false, not_true_eq_false, not_false_eq_true, or_true, true_or, or_false, false_or, Bool.false_eq_true, cI_I1, cI_I2, cI_R, cI_E, cI_P, cR_I, cR_R1, cR_R2, cR_E, cR_P, cE_I, cE_R, cE_E1, cE_E2, cE_P, cP_I, cP_R, cP_E, cP_P1, cP_P2, cn_I, cty_I, cL_I, csz_I, csl_I, cn_R, cty_R, cL_R, csz_R, csl_R, cn_E, cty_E, cL_E, csz_E, csl_E, cn_P, cty_P, cL_P, csz_P, csl_P, h1, ↓drf_eq h2, h4, h6, h9, Int.toNat_natCast]
theorem X8_codeAt_out (h : TxI C a cap n) {k : Int} (hk : k < 0 ∨ (n : Int) ≤ k) (k1 : -2147483648 ≤ k) (k2 : k < 2147483648) : fX8_codeAt a k C = some (-1, C) := by
  obtain ⟨⟨h1, h2, h3, h4, h5, h6, h7, h8⟩, h9, h10, h11⟩ := h
  unfold fX8_codeAt
  by_cases hc : k < 0
  · simp (disch := omega) only [isO, ↓bnd_eq, ↓reduceIte, ↓drf_some, ↓cal_some, ↓calx_inl, ↓calx_inr, ↓opt_some, ↓opt_none, w32_of, ix_of, inR, le_t, le_f, lt_t, lt_f, eq_t, eq_f, and_self, true_and, and_true, false_and, and_false, not_true_eq_false, not_false_eq_true, or_true, true_or, or_false, false_or, Bool.false_eq_true, cI_I1, cI_I2, cI_R, cI_E, cI_P, cR_I, cR_R1, cR_R2, cR_E, cR_P, cE_I, cE_R, cE_E1, cE_E2, cE_P, cP_I, cP_R, cP_E, cP_P1, cP_P2, cn_I, cty_I, cL_I, csz_I, csl_I, cn_R, cty_R, cL_R, csz_R, csl_R, cn_E, cty_E, cL_E, csz_E, csl_E, cn_P, cty_P, cL_P, csz_P, csl_P, hc]
  · simp (disch := omega) only [isO, ↓bnd_eq, ↓reduceIte, ↓drf_some, ↓cal_some, ↓calx_inl, ↓calx_inr, ↓opt_some, ↓opt_none, w32_of, ix_of, inR, le_t, le_f, lt_t, lt_f, eq_t, eq_f, and_self, true_and, and_true, false_and, and_false, not_true_eq_false, not_false_eq_true, or_true, true_or, or_false, false_or, Bool.false_eq_true, cI_I1, cI_I2, cI_R, cI_E, cI_P, cR_I, cR_R1, cR_R2, cR_E, cR_P, cE_I, cE_R, cE_E1, cE_E2, cE_P, cP_I, cP_R, cP_E, cP_P1, cP_P2, cn_I, cty_I, cL_I, csz_I, csl_I, cn_R, cty_R, cL_R, csz_R, csl_R, cn_E, cty_E, cL_E, csz_E, csl_E, cn_P, cty_P, cL_P, csz_P, csl_P, h1, h9, hc]
theorem X8_kindAt_in (h : TxI C a cap n) {k : Nat} (hk : k < n) : fX8_kindAt a (k : Int) C = some (cE C (a + 1) k / 1000, C) := by
  obtain ⟨⟨h1, h2, h3, h4, h5, h6, h7, h8⟩, h9, h10, h11⟩ := h
  have h12 := h11 k hk
  unfold fX8_kindAt
  simp (disch := omega) only [isO, ↓bnd_eq, ↓reduceIte, ↓drf_some, ↓cal_some, ↓calx_inl, ↓calx_inr, ↓opt_some, ↓opt_none, w32_of, ix_of, inR, le_t, le_f, lt_t, lt_f, eq_t, eq_f, and_self, true_and, and_true, false_and, and_false, not_true_eq_false, not_false_eq_true, or_true, true_or, or_false, false_or, Bool.false_eq_true, cI_I1, cI_I2, cI_R, cI_E, cI_P, cR_I, cR_R1, cR_R2, cR_E, cR_P, cE_I, cE_R, cE_E1, cE_E2, cE_P, cP_I, cP_R, cP_E, cP_P1, cP_P2, cn_I, cty_I, cL_I, csz_I, csl_I, cn_R, cty_R, cL_R, csz_R, csl_R, cn_E, cty_E, cL_E, csz_E, csl_E, cn_P, cty_P, cL_P, csz_P, csl_P, h1, ↓drf_eq h2, h4, h6, h9, Int.toNat_natCast, divI_of]
theorem X8_kindAt_out (h : TxI C a cap n) {k : Int} (hk : k < 0 ∨ (n : Int) ≤ k) (k1 : -2147483648 ≤ k) (k2 : k < 2147483648) : fX8_kindAt a k C = some (-1, C) := by
  obtain ⟨⟨h1, h2, h3, h4, h5, h6, h7, h8⟩, h9, h10, h11⟩ := h
  unfold fX8_kindAt
  by_cases hc : k < 0
  · simp (disch := omega) only [isO, ↓bnd_eq, ↓reduceIte, ↓drf_some, ↓cal_some, ↓calx_inl, ↓calx_inr, ↓opt_some, ↓opt_none, w32_of, ix_of, inR, le_t, le_f, lt_t, lt_f, eq_t, eq_f, and_self, true_and, and_true, false_and, and_false, not_true_eq_false, not_false_eq_true, or_true, true_or, or_false, false_or, Bool.false_eq_true, cI_I1, cI_I2, cI_R, cI_E, cI_P, cR_I, cR_R1, cR_R2, cR_E, cR_P, cE_I, cE_R, cE_E1, cE_E2, cE_P, cP_I, cP_R, cP_E, cP_P1, cP_P2, cn_I, cty_I, cL_I, csz_I, csl_I, cn_R, cty_R, cL_R, csz_R, csl_R, cn_E, cty_E, cL_E, csz_E, csl_E, cn_P, cty_P, cL_P, csz_P, csl_P, hc]
  · simp (disch := omega) only [isO, ↓bnd_eq, ↓reduceIte, ↓drf_some, ↓cal_some, ↓calx_inl, ↓calx_inr, ↓opt_some, ↓opt_none, w32_of, ix_of, inR, le_t, le_f, lt_t, lt_f, eq_t, eq_f, and_self, true_and, and_true, false_and, and_false, not_true_eq_false, not_false_eq_true, or_true, true_or, or_false, false_or, Bool.false_eq_true, cI_I1, cI_I2, cI_R, cI_E, cI_P, cR_I, cR_R1, cR_R2, cR_E, cR_P, cE_I, cE_R, cE_E1, cE_E2, cE_P, cP_I, cP_R, cP_E, cP_P1, cP_P2, cn_I, cty_I, cL_I, csz_I, csl_I, cn_R, cty_R, cL_R, csz_R, csl_R, cn_E, cty_E, cL_E, csz_E, csl_E, cn_P, cty_P, cL_P, csz_P, csl_P, h1, h9, hc]
theorem X8_valueAt_in (h : TxI C a cap n) {k : Nat} (hk : k < n) : fX8_valueAt a (k : Int) C = some (cE C (a + 1) k % 1000, C) := by
  obtain ⟨⟨h1, h2, h3, h4, h5, h6, h7, h8⟩, h9, h10, h11⟩ := h
  have h12 := h11 k hk
  unfold fX8_valueAt
  simp (disch := omega) only [isO, ↓bnd_eq, ↓reduceIte, ↓drf_some, ↓cal_some, ↓calx_inl, ↓calx_inr, ↓opt_some, ↓opt_none, w32_of, ix_of, inR, le_t, le_f, lt_t, lt_f, eq_t, eq_f, and_self, true_and, and_true, false_and, and_false, not_true_eq_false, not_false_eq_true, or_true, true_or, or_false, false_or, Bool.false_eq_true, cI_I1, cI_I2, cI_R, cI_E, cI_P, cR_I, cR_R1, cR_R2, cR_E, cR_P, cE_I, cE_R, cE_E1, cE_E2, cE_P, cP_I, cP_R, cP_E, cP_P1, cP_P2, cn_I, cty_I, cL_I, csz_I, csl_I, cn_R, cty_R, cL_R, csz_R, csl_R, cn_E, cty_E, cL_E, csz_E, csl_E, cn_P, cty_P, cL_P, csz_P, csl_P, h1, ↓drf_eq h2, h4, h6, h9, Int.toNat_natCast, remI_of]
theorem X8_valueAt_out (h : TxI C a cap n) {k : Int} (hk : k < 0 ∨ (n : Int) ≤ k) (k1 : -2147483648 ≤ k) (k2 : k < 2147483648) : fX8_valueAt a k C = some (-1, C) := by
  obtain ⟨⟨h1, h2, h3, h4, h5, h6, h7, h8⟩, h9, h10, h11⟩ := h
  unfold fX8_valueAt
  by_cases hc : k < 0
  · simp (disch := omega) only [isO, ↓bnd_eq, ↓reduceIte, ↓drf_some, ↓cal_some, ↓calx_inl, ↓calx_inr, ↓opt_some, ↓opt_none, w32_of, ix_of, inR, le_t, le_f, lt_t, lt_f, eq_t, eq_f, and_self, true_and, and_true, false_and, and_false, not_true_eq_false, not_false_eq_true, or_true, true_or, or_false, false_or, Bool.false_eq_true, cI_I1, cI_I2, cI_R, cI_E, cI_P, cR_I, cR_R1, cR_R2, cR_E, cR_P, cE_I, cE_R, cE_E1, cE_E2, cE_P, cP_I, cP_R, cP_E, cP_P1, cP_P2, cn_I, cty_I, cL_I, csz_I, csl_I, cn_R, cty_R, cL_R, csz_R, csl_R, cn_E, cty_E, cL_E, csz_E, csl_E, cn_P, cty_P, cL_P, csz_P, csl_P, hc]
  · simp (disch := omega) only [isO, ↓bnd_eq, ↓reduceIte, ↓drf_some, ↓cal_some, ↓calx_inl, ↓calx_inr, ↓opt_some, ↓opt_none, w32_of, ix_of, inR, le_t, le_f, lt_t, lt_f, eq_t, eq_f, and_self, true_and, and_true, false_and, and_false, not_true_eq_false, not_false_eq_true, or_true, true_or, or_false, false_or, Bool.false_eq_true, cI_I1, cI_I2, cI_R, cI_E, cI_P, cR_I, cR_R1, cR_R2, cR_E, cR_P, cE_I, cE_R, cE_E1, cE_E2, cE_P, cP_I, cP_R, cP_E, cP_P1, cP_P2, cn_I, cty_I, cL_I, csz_I, csl_I, cn_R, cty_R, cL_R, csz_R, csl_R, cn_E, cty_E, cL_E, csz_E, csl_E, cn_P, cty_P, cL_P, csz_P, csl_P, h1, h9, hc]
theorem X8_endAt_in (h : TxI C a cap n) {k : Nat} (hk : k < n) : fX8_endAt a (k : Int) C = some (cE C (a + 2) k, C) := by
  obtain ⟨⟨h1, h2, h3, h4, h5, h6, h7, h8⟩, h9, h10, h11⟩ := h
  unfold fX8_endAt
  simp (disch := omega) only [isO, ↓bnd_eq, ↓reduceIte, ↓drf_some, ↓cal_some, ↓calx_inl, ↓calx_inr, ↓opt_some, ↓opt_none, w32_of, ix_of, inR, le_t, le_f, lt_t, lt_f, eq_t, eq_f, and_self, true_and, and_true, false_and, and_false, not_true_eq_false, not_false_eq_true, or_true, true_or, or_false, false_or, Bool.false_eq_true, cI_I1, cI_I2, cI_R, cI_E, cI_P, cR_I, cR_R1, cR_R2, cR_E, cR_P, cE_I, cE_R, cE_E1, cE_E2, cE_P, cP_I, cP_R, cP_E, cP_P1, cP_P2, cn_I, cty_I, cL_I, csz_I, csl_I, cn_R, cty_R, cL_R, csz_R, csl_R, cn_E, cty_E, cL_E, csz_E, csl_E, cn_P, cty_P, cL_P, csz_P, csl_P, h1, ↓drf_eq h3, h5, h7, h9, Int.toNat_natCast]
theorem X8_endAt_out (h : TxI C a cap n) {k : Int} (hk : k < 0 ∨ (n : Int) ≤ k) (k1 : -2147483648 ≤ k) (k2 : k < 2147483648) : fX8_endAt a k C = some ((n : Int), C) := by
  obtain ⟨⟨h1, h2, h3, h4, h5, h6, h7, h8⟩, h9, h10, h11⟩ := h
  unfold fX8_endAt
  by_cases hc : k < 0
  · simp (disch := omega) only [isO, ↓bnd_eq, ↓reduceIte, ↓drf_some, ↓cal_some, ↓calx_inl, ↓calx_inr, ↓opt_some, ↓opt_none, w32_of, ix_of, inR, le_t, le_f, lt_t, lt_f, eq_t, eq_f, and_self, true_and, and_true, false_and, and_false, not_true_eq_false, not_false_eq_true, or_true, true_or, or_false, false_or, Bool.false_eq_true, cI_I1, cI_I2, cI_R, cI_E, cI_P, cR_I, cR_R1, cR_R2, cR_E, cR_P, cE_I, cE_R, cE_E1, cE_E2, cE_P, cP_I, cP_R, cP_E, cP_P1, cP_P2, cn_I, cty_I, cL_I, csz_I, csl_I, cn_R, cty_R, cL_R, csz_R, csl_R, cn_E, cty_E, cL_E, csz_E, csl_E, cn_P, cty_P, cL_P, csz_P, csl_P, hc, h1, h9]
  · simp (disch := omega) only [isO, ↓bnd_eq, ↓reduceIte, ↓drf_some, ↓cal_some, ↓calx_inl, ↓calx_inr, ↓opt_some, ↓opt_none, w32_of, ix_of, inR, le_t, le_f, lt_t, lt_f, eq_t, eq_f, and_self, true_and, and_true, false_and, and_false, not_true_eq_false, not_false_eq_true, or_true, true_or, or_false, false_or, Bool.false_eq_true, cI_I1, cI_I2, cI_R, cI_E, cI_P, cR_I, cR_R1, cR_R2, cR_E, cR_P, cE_I, cE_R, cE_E1, cE_E2, cE_P, cP_I, cP_R, cP_E, cP_P1, cP_P2, cn_I, cty_I, cL_I, csz_I, csl_I, cn_R, cty_R, cL_R, csz_R, csl_R, cn_E, cty_E, cL_E, csz_E, csl_E, cn_P, cty_P, cL_P, csz_P, csl_P, h1, h9, hc]
theorem X8_opens {k : Int} (h1 : -1 ≤ k) (h2 : k < 14) : fX8_opens k C = some (if opB k = true then 1 else 0, C) := by
  have h3 : k = -1 ∨ k = 0 ∨ k = 1 ∨ k = 2 ∨ k = 3 ∨ k = 4 ∨ k = 5 ∨ k = 6 ∨ k = 7 ∨ k = 8 ∨ k = 9 ∨ k = 10 ∨ k = 11 ∨ k = 12 ∨ k = 13 := by omega
  rcases h3 with h | h | h | h | h | h | h | h | h | h | h | h | h | h | h <;> subst h <;> rfl
theorem X8_startsPart_in (h : TxI C a cap n) {k : Nat} (hk : k < n) : fX8_startsPart a (k : Int) C = some (if mkB (cE C (a + 1) k / 1000) = true then 1 else 0, C) := by
  have h12 := h.2.2.2 k hk
  have hO := h.1.1
  unfold fX8_startsPart
  by_cases c1 : cE C (a + 1) k / 1000 = 5
  · simp (disch := omega) only [isO, ↓bnd_eq, ↓reduceIte, ↓drf_some, ↓cal_some, ↓calx_inl, ↓calx_inr, ↓opt_some, ↓opt_none, w32_of, ix_of, inR, le_t, le_f, lt_t, lt_f, eq_t, eq_f, and_self, true_and, and_true, false_and, and_false, not_true_eq_false, not_false_eq_true, or_true, true_or, or_false, false_or, Bool.false_eq_true, cI_I1, cI_I2, cI_R, cI_E, cI_P, cR_I, cR_R1, cR_R2, cR_E, cR_P, cE_I, cE_R, cE_E1, cE_E2, cE_P, cP_I, cP_R, cP_E, cP_P1, cP_P2, cn_I, cty_I, cL_I, csz_I, csl_I, cn_R, cty_R, cL_R, csz_R, csl_R, cn_E, cty_E, cL_E, csz_E, csl_E, cn_P, cty_P, cL_P, csz_P, csl_P, hO, ↓cal_of (X8_kindAt_in h hk), c1, retZ]
    rfl
  · by_cases c2 : cE C (a + 1) k / 1000 = 6
    · simp (disch := omega) only [isO, ↓bnd_eq, ↓reduceIte, ↓drf_some, ↓cal_some, ↓calx_inl, ↓calx_inr, ↓opt_some, ↓opt_none, w32_of, ix_of, inR, le_t, le_f, lt_t, lt_f, eq_t, eq_f, and_self, true_and, and_true, false_and, and_false, not_true_eq_false, not_false_eq_true, or_true, true_or, or_false, false_or, Bool.false_eq_true, cI_I1, cI_I2, cI_R, cI_E, cI_P, cR_I, cR_R1, cR_R2, cR_E, cR_P, cE_I, cE_R, cE_E1, cE_E2, cE_P, cP_I, cP_R, cP_E, cP_P1, cP_P2, cn_I, cty_I, cL_I, csz_I, csl_I, cn_R, cty_R, cL_R, csz_R, csl_R, cn_E, cty_E, cL_E, csz_E, csl_E, cn_P, cty_P, cL_P, csz_P, csl_P, hO, ↓cal_of (X8_kindAt_in h hk), c2, retZ]
      rfl
    · simp (disch := omega) only [isO, ↓bnd_eq, ↓reduceIte, ↓drf_some, ↓cal_some, ↓calx_inl, ↓calx_inr, ↓opt_some, ↓opt_none, w32_of, ix_of, inR, le_t, le_f, lt_t, lt_f, eq_t, eq_f, and_self, true_and, and_true, false_and, and_false, not_true_eq_false, not_false_eq_true, or_true, true_or, or_false, false_or, Bool.false_eq_true, cI_I1, cI_I2, cI_R, cI_E, cI_P, cR_I, cR_R1, cR_R2, cR_E, cR_P, cE_I, cE_R, cE_E1, cE_E2, cE_P, cP_I, cP_R, cP_E, cP_P1, cP_P2, cn_I, cty_I, cL_I, csz_I, csl_I, cn_R, cty_R, cL_R, csz_R, csl_R, cn_E, cty_E, cL_E, csz_E, csl_E, cn_P, cty_P, cL_P, csz_P, csl_P, hO, ↓cal_of (X8_kindAt_in h hk), c1, c2, retZ, mkB, decide_false, Bool.false_eq_true]
theorem X8_startsPart_out (h : TxI C a cap n) {k : Int} (hk : k < 0 ∨ (n : Int) ≤ k) (k1 : -2147483648 ≤ k) (k2 : k < 2147483648) : fX8_startsPart a k C = some (0, C) := by
  have hO := h.1.1
  unfold fX8_startsPart
  simp (disch := omega) only [isO, ↓bnd_eq, ↓reduceIte, ↓drf_some, ↓cal_some, ↓calx_inl, ↓calx_inr, ↓opt_some, ↓opt_none, w32_of, ix_of, inR, le_t, le_f, lt_t, lt_f, eq_t, eq_f, and_self, true_and, and_true, false_and, and_false, not_true_eq_false, not_false_eq_true, or_true, true_or, or_false, false_or, Bool.false_eq_true, cI_I1, cI_I2, cI_R, cI_E, cI_P, cR_I, cR_R1, cR_R2, cR_E, cR_P, cE_I, cE_R, cE_E1, cE_E2, cE_P, cP_I, cP_R, cP_E, cP_P1, cP_P2, cn_I, cty_I, cL_I, csz_I, csl_I, cn_R, cty_R, cL_R, csz_R, csl_R, cn_E, cty_E, cL_E, csz_E, csl_E, cn_P, cty_P, cL_P, csz_P, csl_P, hO, ↓cal_of (X8_kindAt_out h hk k1 k2), retZ]
theorem X8_isRedirect_ (h : TxI C a cap n) (hn : 0 < n) : fX8_isRedirect a C = some (if cE C (a + 1) 0 / 1000 = 12 then 1 else 0, C) := by
  have h12 := h.2.2.2 0 hn
  have hO := h.1.1
  have h0 := X8_kindAt_in h hn
  rw [show ((0 : Nat) : Int) = 0 from rfl] at h0
  unfold fX8_isRedirect
  by_cases c1 : cE C (a + 1) 0 / 1000 = 12
  · simp (disch := omega) only [isO, ↓bnd_eq, ↓reduceIte, ↓drf_some, ↓cal_some, ↓calx_inl, ↓calx_inr, ↓opt_some, ↓opt_none, w32_of, ix_of, inR, le_t, le_f, lt_t, lt_f, eq_t, eq_f, and_self, true_and, and_true, false_and, and_false, not_true_eq_false, not_false_eq_true, or_true, true_or, or_false, false_or, Bool.false_eq_true, cI_I1, cI_I2, cI_R, cI_E, cI_P, cR_I, cR_R1, cR_R2, cR_E, cR_P, cE_I, cE_R, cE_E1, cE_E2, cE_P, cP_I, cP_R, cP_E, cP_P1, cP_P2, cn_I, cty_I, cL_I, csz_I, csl_I, cn_R, cty_R, cL_R, csz_R, csl_R, cn_E, cty_E, cL_E, csz_E, csl_E, cn_P, cty_P, cL_P, csz_P, csl_P, hO, ↓cal_of h0, c1, retZ]
  · simp (disch := omega) only [isO, ↓bnd_eq, ↓reduceIte, ↓drf_some, ↓cal_some, ↓calx_inl, ↓calx_inr, ↓opt_some, ↓opt_none, w32_of, ix_of, inR, le_t, le_f, lt_t, lt_f, eq_t, eq_f, and_self, true_and, and_true, false_and, and_false, not_true_eq_false, not_false_eq_true, or_true, true_or, or_false, false_or, Bool.false_eq_true, cI_I1, cI_I2, cI_R, cI_E, cI_P, cR_I, cR_R1, cR_R2, cR_E, cR_P, cE_I, cE_R, cE_E1, cE_E2, cE_P, cP_I, cP_R, cP_E, cP_P1, cP_P2, cn_I, cty_I, cL_I, csz_I, csl_I, cn_R, cty_R, cL_R, csz_R, csl_R, cn_E, cty_E, cL_E, csz_E, csl_E, cn_P, cty_P, cL_P, csz_P, csl_P, hO, ↓cal_of h0, c1, retZ]
/-- how many sections begin ahead of a place -/
def secs (g : Nat → Int) : Nat → Nat
  | 0 => 0
  | n + 1 => secs g n + (if g n / 1000 = 13 then 1 else 0)
theorem secs_succ (g : Nat → Int) (n : Nat) : secs g (n + 1) = secs g n + (if g n / 1000 = 13 then 1 else 0) := rfl
theorem X8_sections (h : TxI C a cap n) : fX8_sections a C = some (((1 + secs (cE C (a + 1)) n : Nat) : Int), C) := by
  have hcap := h.1.2.2.2.2.2.2.2
  have hn := h.2.2.1
  have hO := h.1.1
  have hs := h.2.1
  unfold fX8_sections
  rw [bnd_eq]
  refine (lpn_rule (P := fun m (L : Int → Int → Cd → Option (Int × Cd)) => ∀ k : Nat, k ≤ n → n - k < m → L ((1 + secs (cE C (a + 1)) k : Nat) : Int) (k : Int) C = some (((1 + secs (cE C (a + 1)) n : Nat) : Int), C)) (fun k _ h => absurd h (Nat.not_lt_zero _)) (fun m L hL k hk hm => ?_) FU) 0 (Nat.zero_le _) (by unfold FU; omega)
  rcases Nat.lt_or_ge k n with hlt | hge
  · have h12 := h.2.2.2 k hlt
    have ih := hL (k + 1) hlt (by omega)
    rw [secs_succ] at ih
    by_cases c1 : cE C (a + 1) k / 1000 = 13
    · rw [if_pos c1] at ih
      simp (disch := omega) only [isO, ↓bnd_eq, ↓reduceIte, ↓drf_some, ↓cal_some, ↓calx_inl, ↓calx_inr, ↓opt_some, ↓opt_none, w32_of, ix_of, inR, le_t, le_f, lt_t, lt_f, eq_t, eq_f, and_self, true_and, and_true, false_and, and_false, not_true_eq_false, not_false_eq_true, or_true, true_or, or_false, false_or, Bool.false_eq_true, cI_I1, cI_I2, cI_R, cI_E, cI_P, cR_I, cR_R1, cR_R2, cR_E, cR_P, cE_I, cE_R, cE_E1, cE_E2, cE_P, cP_I, cP_R, cP_E, cP_P1, cP_P2, cn_I, cty_I, cL_I, csz_I, csl_I, cn_R, cty_R, cL_R, csz_R, csl_R, cn_E, cty_E, cL_E, csz_E, csl_E, cn_P, cty_P, cL_P, csz_P, csl_P, hO, hs, ↓cal_of (X8_kindAt_in h hlt), c1]
      have e1 : (((1 + (secs (cE C (a + 1)) k + 1) : Nat)) : Int) = ((1 + secs (cE C (a + 1)) k : Nat) : Int) + 1 := by omega
      rw [e1] at ih
      exact ih
    · rw [if_neg c1] at ih
      simp (disch := omega) only [isO, ↓bnd_eq, ↓reduceIte, ↓drf_some, ↓cal_some, ↓calx_inl, ↓calx_inr, ↓opt_some, ↓opt_none, w32_of, ix_of, inR, le_t, le_f, lt_t, lt_f, eq_t, eq_f, and_self, true_and, and_true, false_and, and_false, not_true_eq_false, not_false_eq_true, or_true, true_or, or_false, false_or, Bool.false_eq_true, cI_I1, cI_I2, cI_R, cI_E, cI_P, cR_I, cR_R1, cR_R2, cR_E, cR_P, cE_I, cE_R, cE_E1, cE_E2, cE_P, cP_I, cP_R, cP_E, cP_P1, cP_P2, cn_I, cty_I, cL_I, csz_I, csl_I, cn_R, cty_R, cL_R, csz_R, csl_R, cn_E, cty_E, cL_E, csz_E, csl_E, cn_P, cty_P, cL_P, csz_P, csl_P, hO, hs, ↓cal_of (X8_kindAt_in h hlt), c1]
      exact ih
  · have e : k = n := by omega
    subst e
    simp (disch := omega) only [isO, ↓bnd_eq, ↓reduceIte, ↓drf_some, ↓cal_some, ↓calx_inl, ↓calx_inr, ↓opt_some, ↓opt_none, w32_of, ix_of, inR, le_t, le_f, lt_t, lt_f, eq_t, eq_f, and_self, true_and, and_true, false_and, and_false, not_true_eq_false, not_false_eq_true, or_true, true_or, or_false, false_or, Bool.false_eq_true, cI_I1, cI_I2, cI_R, cI_E, cI_P, cR_I, cR_R1, cR_R2, cR_E, cR_P, cE_I, cE_R, cE_E1, cE_E2, cE_P, cP_I, cP_R, cP_E, cP_P1, cP_P2, cn_I, cty_I, cL_I, csz_I, csl_I, cn_R, cty_R, cL_R, csz_R, csl_R, cn_E, cty_E, cL_E, csz_E, csl_E, cn_P, cty_P, cL_P, csz_P, csl_P, hO, hs]
end TXT
