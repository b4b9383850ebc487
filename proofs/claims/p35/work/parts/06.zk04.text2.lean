/-! TEXTS: their content as a function of its own; what changes one text alone -/
/-- a text at a with this content -/
def TxV (C : Cd) (a cap : Nat) (g : Nat → Int) (n : Nat) : Prop := TxI C a cap n ∧ ∀ k, k < n → cE C (a + 1) k = g k
theorem TxV.tks {C : Cd} {a cap n : Nat} {g : Nat → Int} (h : TxV C a cap g n) : Tks g n := fun k hk => by
  rw [← h.2 k hk]; exact h.1.2.2.2 k hk
/-- only the text at a is other -/
def TxOnly (C C' : Cd) (a : Nat) : Prop := cR C' = cR C ∧ C'.2.2.2 = C.2.2.2 ∧ (∀ k b, (k ≠ 1102 ∨ b ≠ a) → cI C' k b = cI C k b) ∧ (∀ b i, b ≠ a + 1 → cE C' b i = cE C b i)
theorem TxOnly.rfl (C : Cd) (a : Nat) : TxOnly C C a := ⟨Eq.refl _, Eq.refl _, fun _ _ _ => Eq.refl _, fun _ _ _ => Eq.refl _⟩
theorem TxOnly.tr {C C1 C2 : Cd} {a : Nat} (h : TxOnly C C1 a) (h1 : TxOnly C1 C2 a) : TxOnly C C2 a :=
  ⟨h1.1.trans h.1, h1.2.1.trans h.2.1, fun k b q => (h1.2.2.1 k b q).trans (h.2.2.1 k b q), fun b i q => (h1.2.2.2 b i q).trans (h.2.2.2 b i q)⟩
theorem TxOnly.isO {C C' : Cd} {a : Nat} (h : TxOnly C C' a) {b t : Nat} : isO C' b t ↔ isO C b t := by
  have h1 := h.2.1
  have e1 : cL C' = cL C := congrArg (fun (z : (Nat → Nat → Option Nat) × (Nat → Nat) × (Nat → Nat) × List Nat × Nat × Nat) => z.2.2.2.1) h1
  have e2 : cty C' = cty C := congrArg (fun (z : (Nat → Nat → Option Nat) × (Nat → Nat) × (Nat → Nat) × List Nat × Nat × Nat) => z.2.2.1) h1
  show (b ∈ cL C' ∧ cty C' b = t) ↔ (b ∈ cL C ∧ cty C b = t)
  rw [e1, e2]
theorem TxOnly.cn {C C' : Cd} {a : Nat} (h : TxOnly C C' a) : cn C' = cn C := congrArg (fun (z : (Nat → Nat → Option Nat) × (Nat → Nat) × (Nat → Nat) × List Nat × Nat × Nat) => z.2.1) h.2.1
theorem TxOnly.csz {C C' : Cd} {a : Nat} (h : TxOnly C C' a) : csz C' = csz C := congrArg (fun (z : (Nat → Nat → Option Nat) × (Nat → Nat) × (Nat → Nat) × List Nat × Nat × Nat) => z.2.2.2.2.1) h.2.1
theorem TxA.keep {C C' : Cd} {a b cap : Nat} (h : TxOnly C C' a) (hb : TxA C b cap) : TxA C' b cap := by
  obtain ⟨h1, h2, h3, h4, h5, h6, h7, h8⟩ := hb
  refine ⟨h.isO.mpr h1, ?_, ?_, h.isO.mpr h4, h.isO.mpr h5, ?_, ?_, h8⟩
  · rw [h.1]; exact h2
  · rw [h.1]; exact h3
  · rw [h.cn]; exact h6
  · rw [h.cn]; exact h7
theorem TxV.keep {C C' : Cd} {a b cap n : Nat} {g : Nat → Int} (h : TxOnly C C' a) (hab : b ≠ a) (hb : TxV C b cap g n) : TxV C' b cap g n := by
  obtain ⟨⟨h1, h2, h3, h4⟩, h5⟩ := hb
  have e : ∀ k, cE C' (b + 1) k = cE C (b + 1) k := fun k => h.2.2.2 _ _ (by omega)
  refine ⟨⟨h1.keep h, ?_, h3, fun k hk => ?_⟩, fun k hk => ?_⟩
  · rw [h.2.2.1 _ _ (Or.inr hab)]; exact h2
  · rw [e]; exact h4 k hk
  · rw [e]; exact h5 k hk
/-- one row behind another -/
def cat (g : Nat → Int) (n : Nat) (f : Nat → Int) : Nat → Int := fun i => if i < n then g i else f (i - n)
theorem cat_lt {g f : Nat → Int} {n i : Nat} (h : i < n) : cat g n f i = g i := if_pos h
theorem cat_ge {g f : Nat → Int} {n : Nat} (i : Nat) : cat g n f (n + i) = f i := by
  unfold cat
  rw [if_neg (by omega)]
  congr 1
  omega
theorem X8_clear_ {C : Cd} {a cap n : Nat} (h : TxI C a cap n) (g : Nat → Int) : ∃ C', fX8_clear a C = some ((), C') ∧ TxV C' a cap g 0 ∧ TxOnly C C' a := by
  have hO := h.1.1
  refine ⟨cSetI C 1102 a 0, ?_, ⟨⟨?_, ?_, Nat.zero_le _, fun k hk => absurd hk (Nat.not_lt_zero _)⟩, fun k hk => absurd hk (Nat.not_lt_zero _)⟩, ?_⟩
  · unfold fX8_clear
    simp (disch := omega) only [isO, ↓bnd_eq, ↓reduceIte, ↓drf_some, ↓cal_some, ↓calx_inl, ↓calx_inr, ↓opt_some, ↓opt_none, w32_of, ix_of, inR, le_t, le_f, lt_t, lt_f, eq_t, eq_f, and_self, true_and, and_true, false_and, and_false, not_true_eq_false, not_false_eq_true, or_true, true_or, or_false, false_or, Bool.false_eq_true, cI_I1, cI_I2, cI_R, cI_E, cI_P, cR_I, cR_R1, cR_R2, cR_E, cR_P, cE_I, cE_R, cE_E1, cE_E2, cE_P, cP_I, cP_R, cP_E, cP_P1, cP_P2, cn_I, cty_I, cL_I, csz_I, csl_I, cn_R, cty_R, cL_R, csz_R, csl_R, cn_E, cty_E, cL_E, csz_E, csl_E, cn_P, cty_P, cL_P, csz_P, csl_P, hO]
  · exact h.1
  · exact cI_I1 C 1102 a 0
  · exact ⟨rfl, rfl, fun k b q => cI_I2 C 0 q, fun _ _ _ => rfl⟩
theorem X8_add_ {C : Cd} {a cap n : Nat} {g : Nat → Int} {v : Int} (h : TxV C a cap g n) (hn : n < cap) (v1 : 0 ≤ v) (v2 : v < 14000) : ∃ C', fX8_add a v C = some ((), C') ∧ TxV C' a cap (cat g n (fun _ => v)) (n + 1) ∧ TxOnly C C' a := by
  obtain ⟨⟨⟨h1, h2, h3, h4, h5, h6, h7, h8⟩, h9, h10, h11⟩, h12⟩ := h
  have e : ∀ k, k < n + 1 → cE (cSetI (cSetE C (a + 1) n v) 1102 a ((n : Int) + 1)) (a + 1) k = cat g n (fun _ => v) k := by
    intro k hk
    show (if a + 1 = a + 1 ∧ k = n then v else cE C (a + 1) k) = _
    unfold cat
    rcases Nat.lt_or_ge k n with q | q
    · rw [if_neg (by omega), if_pos q]; exact h12 k q
    · rw [if_pos ⟨rfl, by omega⟩, if_neg (by omega)]
  refine ⟨cSetI (cSetE C (a + 1) n v) 1102 a ((n : Int) + 1), ?_, ⟨⟨⟨h1, h2, h3, h4, h5, h6, h7, h8⟩, ?_, hn, fun k hk => ?_⟩, e⟩, ?_⟩
  · unfold fX8_add
    simp (disch := omega) only [isO, ↓bnd_eq, ↓reduceIte, ↓drf_some, ↓cal_some, ↓calx_inl, ↓calx_inr, ↓opt_some, ↓opt_none, w32_of, ix_of, inR, le_t, le_f, lt_t, lt_f, eq_t, eq_f, and_self, true_and, and_true, false_and, and_false, not_true_eq_false, not_false_eq_true, or_true, true_or, or_false, false_or, Bool.false_eq_true, cI_I1, cI_I2, cI_R, cI_E, cI_P, cR_I, cR_R1, cR_R2, cR_E, cR_P, cE_I, cE_R, cE_E1, cE_E2, cE_P, cP_I, cP_R, cP_E, cP_P1, cP_P2, cn_I, cty_I, cL_I, csz_I, csl_I, cn_R, cty_R, cL_R, csz_R, csl_R, cn_E, cty_E, cL_E, csz_E, csl_E, cn_P, cty_P, cL_P, csz_P, csl_P, h1, ↓drf_eq h2, h4, h6, h9, Int.toNat_natCast]
  · rw [cI_I1]; omega
  · rw [e k hk]
    unfold cat
    by_cases q : k < n
    · rw [if_pos q, ← h12 k q]; exact h11 k q
    · rw [if_neg q]; exact ⟨v1, v2⟩
  · exact ⟨rfl, rfl, fun k b q => (cI_I2 _ _ q).trans rfl, fun b i q => cE_E2 C v (Or.inl q)⟩
theorem TxV.ext {C : Cd} {a cap n : Nat} {g f : Nat → Int} (h : TxV C a cap g n) (e : ∀ k, k < n → g k = f k) : TxV C a cap f n := ⟨h.1, fun k hk => (h.2 k hk).trans (e k hk)⟩
/-- a stretch of another text behind a text -/
theorem X8_addStretch_ {a p cap capp np : Nat} {f : Nat → Int} (hap : p ≠ a) {fr to : Nat} (h2 : to ≤ np) :
    ∀ (C : Cd) (g : Nat → Int) (n : Nat), fr ≤ to → TxV C a cap g n → TxV C p capp f np → n + (to - fr) ≤ cap → ∃ C', fX8_addStretch a (some p) (fr : Int) (to : Int) C = some ((), C') ∧ TxV C' a cap (cat g n (fun i => f (fr + i))) (n + (to - fr)) ∧ TxOnly C C' a := by
  intro C g n h1 hV hW hcap
  have hc9 := hW.1.1.2.2.2.2.2.2.2
  have hc8 := hW.1.2.2.1
  unfold fX8_addStretch
  rw [bnd_eq]
  refine (lpn_rule (P := fun m (L : Int → Cd → Option (Unit × Cd)) => ∀ (k : Nat) (C : Cd) (g : Nat → Int) (n : Nat), k ≤ to → to - k < m → TxV C a cap g n → TxV C p capp f np → n + (to - k) ≤ cap → ∃ C', L (k : Int) C = some ((), C') ∧ TxV C' a cap (cat g n (fun i => f (k + i))) (n + (to - k)) ∧ TxOnly C C' a) (fun k _ _ _ _ h => absurd h (Nat.not_lt_zero _)) (fun m L hL k C g n hk hm hV hW hcap => ?_) FU) fr C g n h1 (by unfold FU; omega) hV hW hcap
  rcases Nat.lt_or_ge k to with hlt | hge
  · have hkn : k < np := by omega
    have ht := hW.tks k hkn
    obtain ⟨C1, e1, hV1, hO1⟩ := X8_add_ (v := f k) hV (by omega) ht.1 ht.2
    obtain ⟨C2, e2, hV2, hO2⟩ := hL (k + 1) C1 _ (n + 1) hlt (by omega) hV1 (hW.keep hO1 hap) (by omega)
    refine ⟨C2, ?_, ?_, hO1.tr hO2⟩
    · have q1 := X8_codeAt_in hW.1 hkn
      rw [hW.2 k hkn] at q1
      have hpO := hW.1.1.1
      have haO := hV.1.1.1
      simp (disch := omega) only [isO, ↓bnd_eq, ↓reduceIte, ↓drf_some, ↓cal_some, ↓calx_inl, ↓calx_inr, ↓opt_some, ↓opt_none, w32_of, ix_of, inR, le_t, le_f, lt_t, lt_f, eq_t, eq_f, and_self, true_and, and_true, false_and, and_false, not_true_eq_false, not_false_eq_true, or_true, true_or, or_false, false_or, Bool.false_eq_true, hpO, haO, ↓cal_of q1, ↓cal_of e1]
      exact e2
    · have e3 : n + 1 + (to - (k + 1)) = n + (to - k) := by omega
      rw [e3] at hV2
      refine hV2.ext (fun i hi => ?_)
      unfold cat
      by_cases q1 : i < n
      · rw [if_pos (by omega), if_pos q1, if_pos q1]
      · rw [if_neg q1]
        by_cases q2 : i < n + 1
        · rw [if_pos q2, if_neg q1]
          have e4 : i = n := by omega
          subst e4
          rw [Nat.sub_self]
          rfl
        · rw [if_neg q2, if_neg q1]
          show f (k + 1 + (i - (n + 1))) = f (k + (i - n))
          congr 1
          omega
  · have e : k = to := by omega
    subst e
    refine ⟨C, ?_, ?_, TxOnly.rfl C a⟩
    · simp (disch := omega) only [isO, ↓bnd_eq, ↓reduceIte, ↓drf_some, ↓cal_some, ↓calx_inl, ↓calx_inr, ↓opt_some, ↓opt_none, w32_of, ix_of, inR, le_t, le_f, lt_t, lt_f, eq_t, eq_f, and_self, true_and, and_true, false_and, and_false, not_true_eq_false, not_false_eq_true, or_true, true_or, or_false, false_or, Bool.false_eq_true]
    · rw [Nat.sub_self, Nat.add_zero]
      exact hV.ext (fun i hi => (cat_lt hi).symm)
