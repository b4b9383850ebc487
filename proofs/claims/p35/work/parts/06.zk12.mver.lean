/-! THE REFERENCE'S VERSIONS -/
theorem ite_tt {α : Type} (a b : α) : (if true = true then a else b) = a := rfl
theorem ite_ff {α : Type} (a b : α) : (if false = true then a else b) = b := rfl
/-- how many below n -/
def cnt (p : Nat → Bool) : Nat → Nat
  | 0 => 0
  | n + 1 => cnt p n + (if p n = true then 1 else 0)
theorem cnt_succ (p : Nat → Bool) (n : Nat) : cnt p (n + 1) = cnt p n + (if p n = true then 1 else 0) := rfl
theorem cnt_le (p : Nat → Bool) (n : Nat) : cnt p n ≤ n := by
  induction n with
  | zero => exact Nat.le_refl _
  | succ n ih => rw [cnt_succ]; split <;> omega
theorem cnt_congr {p q : Nat → Bool} {n : Nat} (h : ∀ k, k < n → p k = q k) : cnt p n = cnt q n := by
  induction n with
  | zero => rfl
  | succ n ih => rw [cnt_succ, cnt_succ, ih (fun k hk => h k (by omega)), h n (by omega)]
theorem cnt_imp {p q : Nat → Bool} {n : Nat} (h : ∀ k, k < n → p k = true → q k = true) : cnt p n ≤ cnt q n := by
  induction n with
  | zero => exact Nat.le_refl _
  | succ n ih =>
    rw [cnt_succ, cnt_succ]
    have i := ih (fun k hk => h k (by omega))
    by_cases c : p n = true
    · rw [if_pos c, if_pos (h n (by omega) c)]; omega
    · rw [if_neg c]; omega
/-- one that the first has not -/
theorem cnt_lt {p q : Nat → Bool} {n : Nat} (h : ∀ k, k < n → p k = true → q k = true) {j : Nat} (hj : j < n) (hp : p j = false) (hq : q j = true) : cnt p n < cnt q n := by
  induction n with
  | zero => exact absurd hj (Nat.not_lt_zero _)
  | succ n ih =>
    rw [cnt_succ, cnt_succ]
    rcases Nat.lt_or_ge j n with z | z
    · have i := ih (fun k hk => h k (by omega)) z
      by_cases c : p n = true
      · rw [if_pos c, if_pos (h n (by omega) c)]; omega
      · rw [if_neg c]; omega
    · have e : j = n := by omega
      subst e
      have i := cnt_imp (p := p) (q := q) (n := j) (fun k hk => h k (by omega))
      rw [if_neg (by rw [hp]; decide), if_pos hq]
      omega
theorem cnt_zero {p : Nat → Bool} {n : Nat} (h : ∀ k, k < n → p k = false) : cnt p n = 0 := by
  induction n with
  | zero => rfl
  | succ n ih => rw [cnt_succ, ih (fun k hk => h k (by omega)), h n (by omega)]; rfl
theorem cnt_pos {p : Nat → Bool} {n j : Nat} (hj : j < n) (h : p j = true) : 0 < cnt p n := by
  induction n with
  | zero => exact absurd hj (Nat.not_lt_zero _)
  | succ n ih =>
    rw [cnt_succ]
    rcases Nat.lt_or_ge j n with z | z
    · have := ih z; omega
    · have e : j = n := by omega
      subst e
      rw [if_pos h]; omega
/-- a version ahead of another -/
def ahd (M : Md) (v o : Nat) : Bool := decide (M.2 11 v < M.2 11 o ∨ (M.2 11 v = M.2 11 o ∧ v < o))
def onp (M : Md) (p : Int) (v : Nat) : Bool := decide (M.2 12 v = p)
def rk (M : Md) (v : Nat) (n : Nat) : Nat := cnt (fun o => onp M (M.2 12 v) o && ahd M o v) n
def prs (M : Md) (p : Int) : Nat → Int
  | 0 => -1
  | n + 1 => if onp M p n = true ∧ (prs M p n = -1 ∨ ahd M (prs M p n).toNat n = true) then (n : Int) else prs M p n
theorem prs_succ (M : Md) (p : Int) (n : Nat) : prs M p (n + 1) = if onp M p n = true ∧ (prs M p n = -1 ∨ ahd M (prs M p n).toNat n = true) then (n : Int) else prs M p n := rfl
theorem prs_rng (M : Md) (p : Int) : ∀ n, prs M p n = -1 ∨ (0 ≤ prs M p n ∧ prs M p n < (n : Int)) := by
  intro n
  induction n with
  | zero => exact Or.inl rfl
  | succ n ih =>
    rw [prs_succ]
    split
    · exact Or.inr ⟨by omega, by omega⟩
    · rcases ih with h | h
      · exact Or.inl h
      · exact Or.inr ⟨h.1, by omega⟩
/-- what is known of versions -/
def VI (M : Md) (nv : Nat) : Prop := M.1 8 = (nv : Int) ∧ nv ≤ 120 ∧ (∀ v, v < nv → I32 (M.2 11 v)) ∧ (∀ v, v < nv → 0 ≤ M.2 12 v ∧ M.2 12 v < (nv : Int)) ∧ (∀ v, v < nv → 1 ≤ M.2 10 v ∧ M.2 10 v ≤ 30)
section MVER
variable {M : Md} {nv : Nat}
theorem X12_isAhead_ (h : VI M nv) {v o : Nat} (hv : v < nv) (ho : o < nv) : fX12_isAhead (v : Int) (o : Int) M = some (if ahd M v o = true then 1 else 0, M) := by
  obtain ⟨h1, h2, h3, h4, h5⟩ := h
  have t1 := h3 v hv
  have t2 := h3 o ho
  unfold fX12_isAhead
  by_cases c1 : M.2 11 v < M.2 11 o
  · rw [show ahd M v o = true from decide_eq_true (Or.inl c1), ite_tt]
    simp (disch := omega) only [isO, ↓bnd_eq, ↓reduceIte, ↓drf_some, ↓cal_some, ↓calx_inl, ↓calx_inr, ↓opt_some, ↓opt_none, w32_of, ix_of, inR, le_t, le_f, lt_t, lt_f, eq_t, eq_f, and_self, true_and, and_true, false_and, and_false, not_true_eq_false, not_false_eq_true, or_true, true_or, or_false, false_or, Bool.false_eq_true, p2_1, p2_2, p1_, s1_1, s1_2, s2_, ml_0, ml_3, ml_4, ml_6, ml_9, ml_10, ml_11, ml_12, ml_14, ml_15, ml_16, ml_17, ml_18, ml_19, ml_20, ml_21, ml_23, ml_24, ml_25, ml_26, ml_27, ml_28, ml_29, ml_30, ml_31, ml_32, ml_33, ml_34, ml_35, ml_37, ml_38, ml_41, ml_42, ml_43, ml_44, ml_45, ml_46, ml_47, ml_49, ml_50, ml_52, ml_53, ml_54, ml_55, ml_56, ml_57, ml_58, ml_60, ml_61, ml_62, ml_63, ml_64, ml_72, ml_74, ml_76, ml_78, Int.toNat_natCast, retZ]
  · by_cases c2 : M.2 11 v = M.2 11 o ∧ v < o
    · rw [show ahd M v o = true from decide_eq_true (Or.inr c2), ite_tt]
      have c3 := c2.1
      have c4 := c2.2
      simp (disch := omega) only [isO, ↓bnd_eq, ↓reduceIte, ↓drf_some, ↓cal_some, ↓calx_inl, ↓calx_inr, ↓opt_some, ↓opt_none, w32_of, ix_of, inR, le_t, le_f, lt_t, lt_f, eq_t, eq_f, and_self, true_and, and_true, false_and, and_false, not_true_eq_false, not_false_eq_true, or_true, true_or, or_false, false_or, Bool.false_eq_true, p2_1, p2_2, p1_, s1_1, s1_2, s2_, ml_0, ml_3, ml_4, ml_6, ml_9, ml_10, ml_11, ml_12, ml_14, ml_15, ml_16, ml_17, ml_18, ml_19, ml_20, ml_21, ml_23, ml_24, ml_25, ml_26, ml_27, ml_28, ml_29, ml_30, ml_31, ml_32, ml_33, ml_34, ml_35, ml_37, ml_38, ml_41, ml_42, ml_43, ml_44, ml_45, ml_46, ml_47, ml_49, ml_50, ml_52, ml_53, ml_54, ml_55, ml_56, ml_57, ml_58, ml_60, ml_61, ml_62, ml_63, ml_64, ml_72, ml_74, ml_76, ml_78, Int.toNat_natCast, retZ]
    · rw [show ahd M v o = false from decide_eq_false (fun q => q.elim c1 c2), ite_ff]
      by_cases c3 : M.2 11 v = M.2 11 o
      · have c4 : ¬ v < o := fun q => c2 ⟨c3, q⟩
        simp (disch := omega) only [isO, ↓bnd_eq, ↓reduceIte, ↓drf_some, ↓cal_some, ↓calx_inl, ↓calx_inr, ↓opt_some, ↓opt_none, w32_of, ix_of, inR, le_t, le_f, lt_t, lt_f, eq_t, eq_f, and_self, true_and, and_true, false_and, and_false, not_true_eq_false, not_false_eq_true, or_true, true_or, or_false, false_or, Bool.false_eq_true, p2_1, p2_2, p1_, s1_1, s1_2, s2_, ml_0, ml_3, ml_4, ml_6, ml_9, ml_10, ml_11, ml_12, ml_14, ml_15, ml_16, ml_17, ml_18, ml_19, ml_20, ml_21, ml_23, ml_24, ml_25, ml_26, ml_27, ml_28, ml_29, ml_30, ml_31, ml_32, ml_33, ml_34, ml_35, ml_37, ml_38, ml_41, ml_42, ml_43, ml_44, ml_45, ml_46, ml_47, ml_49, ml_50, ml_52, ml_53, ml_54, ml_55, ml_56, ml_57, ml_58, ml_60, ml_61, ml_62, ml_63, ml_64, ml_72, ml_74, ml_76, ml_78, Int.toNat_natCast, retZ]
      · simp (disch := omega) only [isO, ↓bnd_eq, ↓reduceIte, ↓drf_some, ↓cal_some, ↓calx_inl, ↓calx_inr, ↓opt_some, ↓opt_none, w32_of, ix_of, inR, le_t, le_f, lt_t, lt_f, eq_t, eq_f, and_self, true_and, and_true, false_and, and_false, not_true_eq_false, not_false_eq_true, or_true, true_or, or_false, false_or, Bool.false_eq_true, p2_1, p2_2, p1_, s1_1, s1_2, s2_, ml_0, ml_3, ml_4, ml_6, ml_9, ml_10, ml_11, ml_12, ml_14, ml_15, ml_16, ml_17, ml_18, ml_19, ml_20, ml_21, ml_23, ml_24, ml_25, ml_26, ml_27, ml_28, ml_29, ml_30, ml_31, ml_32, ml_33, ml_34, ml_35, ml_37, ml_38, ml_41, ml_42, ml_43, ml_44, ml_45, ml_46, ml_47, ml_49, ml_50, ml_52, ml_53, ml_54, ml_55, ml_56, ml_57, ml_58, ml_60, ml_61, ml_62, ml_63, ml_64, ml_72, ml_74, ml_76, ml_78, Int.toNat_natCast, retZ]
theorem X12_aheadOf_ (h : VI M nv) {v : Nat} (hv : v < nv) : fX12_aheadOf (v : Int) M = some ((rk M v nv : Int), M) := by
  have hh := h
  obtain ⟨h1, h2, h3, h4, h5⟩ := h
  unfold fX12_aheadOf
  rw [bnd_eq]
  refine (lpn_rule (P := fun mm (L : Int → Int → Md → Option (Int × Md)) => ∀ i : Nat, i ≤ nv → nv - i < mm → L (rk M v i : Int) (i : Int) M = some ((rk M v nv : Int), M)) (fun i _ h => absurd h (Nat.not_lt_zero _)) (fun mm L hL i hi hm => ?_) FU) 0 (Nat.zero_le _) (by unfold FU; omega)
  rcases Nat.lt_or_ge i nv with hlt | hge
  · have ih := hL (i + 1) hlt (by omega)
    have hr : rk M v i ≤ i := cnt_le _ i
    have e : rk M v (i + 1) = rk M v i + (if (onp M (M.2 12 v) i && ahd M i v) = true then 1 else 0) := rfl
    rw [e] at ih
    have p1 := h4 i hlt
    have p2 := h4 v hv
    have ha := X12_isAhead_ hh hlt hv
    rw [← ih]
    by_cases c1 : M.2 12 i = M.2 12 v
    · have o1 : onp M (M.2 12 v) i = true := decide_eq_true c1
      rw [o1, Bool.true_and]
      by_cases c2 : ahd M i v = true
      · rw [if_pos c2] at ha ⊢
        simp (disch := omega) only [isO, ↓bnd_eq, ↓reduceIte, ↓drf_some, ↓cal_some, ↓calx_inl, ↓calx_inr, ↓opt_some, ↓opt_none, w32_of, ix_of, inR, le_t, le_f, lt_t, lt_f, eq_t, eq_f, and_self, true_and, and_true, false_and, and_false, not_true_eq_false, not_false_eq_true, or_true, true_or, or_false, false_or, Bool.false_eq_true, p2_1, p2_2, p1_, s1_1, s1_2, s2_, ml_0, ml_3, ml_4, ml_6, ml_9, ml_10, ml_11, ml_12, ml_14, ml_15, ml_16, ml_17, ml_18, ml_19, ml_20, ml_21, ml_23, ml_24, ml_25, ml_26, ml_27, ml_28, ml_29, ml_30, ml_31, ml_32, ml_33, ml_34, ml_35, ml_37, ml_38, ml_41, ml_42, ml_43, ml_44, ml_45, ml_46, ml_47, ml_49, ml_50, ml_52, ml_53, ml_54, ml_55, ml_56, ml_57, ml_58, ml_60, ml_61, ml_62, ml_63, ml_64, ml_72, ml_74, ml_76, ml_78, Int.toNat_natCast, h1, ↓cal_of ha]
        rfl
      · rw [if_neg c2] at ha ⊢
        simp (disch := omega) only [isO, ↓bnd_eq, ↓reduceIte, ↓drf_some, ↓cal_some, ↓calx_inl, ↓calx_inr, ↓opt_some, ↓opt_none, w32_of, ix_of, inR, le_t, le_f, lt_t, lt_f, eq_t, eq_f, and_self, true_and, and_true, false_and, and_false, not_true_eq_false, not_false_eq_true, or_true, true_or, or_false, false_or, Bool.false_eq_true, p2_1, p2_2, p1_, s1_1, s1_2, s2_, ml_0, ml_3, ml_4, ml_6, ml_9, ml_10, ml_11, ml_12, ml_14, ml_15, ml_16, ml_17, ml_18, ml_19, ml_20, ml_21, ml_23, ml_24, ml_25, ml_26, ml_27, ml_28, ml_29, ml_30, ml_31, ml_32, ml_33, ml_34, ml_35, ml_37, ml_38, ml_41, ml_42, ml_43, ml_44, ml_45, ml_46, ml_47, ml_49, ml_50, ml_52, ml_53, ml_54, ml_55, ml_56, ml_57, ml_58, ml_60, ml_61, ml_62, ml_63, ml_64, ml_72, ml_74, ml_76, ml_78, Int.toNat_natCast, h1, ↓cal_of ha]
        rw [Int.add_zero]
        rfl
    · have o1 : onp M (M.2 12 v) i = false := decide_eq_false c1
      rw [o1, Bool.false_and, ite_ff]
      simp (disch := omega) only [isO, ↓bnd_eq, ↓reduceIte, ↓drf_some, ↓cal_some, ↓calx_inl, ↓calx_inr, ↓opt_some, ↓opt_none, w32_of, ix_of, inR, le_t, le_f, lt_t, lt_f, eq_t, eq_f, and_self, true_and, and_true, false_and, and_false, not_true_eq_false, not_false_eq_true, or_true, true_or, or_false, false_or, Bool.false_eq_true, p2_1, p2_2, p1_, s1_1, s1_2, s2_, ml_0, ml_3, ml_4, ml_6, ml_9, ml_10, ml_11, ml_12, ml_14, ml_15, ml_16, ml_17, ml_18, ml_19, ml_20, ml_21, ml_23, ml_24, ml_25, ml_26, ml_27, ml_28, ml_29, ml_30, ml_31, ml_32, ml_33, ml_34, ml_35, ml_37, ml_38, ml_41, ml_42, ml_43, ml_44, ml_45, ml_46, ml_47, ml_49, ml_50, ml_52, ml_53, ml_54, ml_55, ml_56, ml_57, ml_58, ml_60, ml_61, ml_62, ml_63, ml_64, ml_72, ml_74, ml_76, ml_78, Int.toNat_natCast, h1]
      rw [Int.add_zero]
      rfl
  · have e : i = nv := by omega
    subst e
    have hr : rk M v i ≤ i := cnt_le _ i
    simp (disch := omega) only [isO, ↓bnd_eq, ↓reduceIte, ↓drf_some, ↓cal_some, ↓calx_inl, ↓calx_inr, ↓opt_some, ↓opt_none, w32_of, ix_of, inR, le_t, le_f, lt_t, lt_f, eq_t, eq_f, and_self, true_and, and_true, false_and, and_false, not_true_eq_false, not_false_eq_true, or_true, true_or, or_false, false_or, Bool.false_eq_true, p2_1, p2_2, p1_, s1_1, s1_2, s2_, ml_0, ml_3, ml_4, ml_6, ml_9, ml_10, ml_11, ml_12, ml_14, ml_15, ml_16, ml_17, ml_18, ml_19, ml_20, ml_21, ml_23, ml_24, ml_25, ml_26, ml_27, ml_28, ml_29, ml_30, ml_31, ml_32, ml_33, ml_34, ml_35, ml_37, ml_38, ml_41, ml_42, ml_43, ml_44, ml_45, ml_46, ml_47, ml_49, ml_50, ml_52, ml_53, ml_54, ml_55, ml_56, ml_57, ml_58, ml_60, ml_61, ml_62, ml_63, ml_64, ml_72, ml_74, ml_76, ml_78, h1]
theorem X12_versionsOf_ (h : VI M nv) {p : Int} (hp : I32 p) : fX12_versionsOf p M = some ((cnt (onp M p) nv : Int), M) := by
  have hh := h
  obtain ⟨h1, h2, h3, h4, h5⟩ := h
  unfold fX12_versionsOf
  rw [bnd_eq]
  refine (lpn_rule (P := fun mm (L : Int → Int → Md → Option (Int × Md)) => ∀ i : Nat, i ≤ nv → nv - i < mm → L (cnt (onp M p) i : Int) (i : Int) M = some ((cnt (onp M p) nv : Int), M)) (fun i _ h => absurd h (Nat.not_lt_zero _)) (fun mm L hL i hi hm => ?_) FU) 0 (Nat.zero_le _) (by unfold FU; omega)
  rcases Nat.lt_or_ge i nv with hlt | hge
  · have ih := hL (i + 1) hlt (by omega)
    have hr := cnt_le (onp M p) i
    rw [cnt_succ] at ih
    have p1 := h4 i hlt
    rw [← ih]
    by_cases c1 : M.2 12 i = p
    · have o1 : onp M p i = true := decide_eq_true c1
      rw [o1, ite_tt]
      simp (disch := omega) only [isO, ↓bnd_eq, ↓reduceIte, ↓drf_some, ↓cal_some, ↓calx_inl, ↓calx_inr, ↓opt_some, ↓opt_none, w32_of, ix_of, inR, le_t, le_f, lt_t, lt_f, eq_t, eq_f, and_self, true_and, and_true, false_and, and_false, not_true_eq_false, not_false_eq_true, or_true, true_or, or_false, false_or, Bool.false_eq_true, p2_1, p2_2, p1_, s1_1, s1_2, s2_, ml_0, ml_3, ml_4, ml_6, ml_9, ml_10, ml_11, ml_12, ml_14, ml_15, ml_16, ml_17, ml_18, ml_19, ml_20, ml_21, ml_23, ml_24, ml_25, ml_26, ml_27, ml_28, ml_29, ml_30, ml_31, ml_32, ml_33, ml_34, ml_35, ml_37, ml_38, ml_41, ml_42, ml_43, ml_44, ml_45, ml_46, ml_47, ml_49, ml_50, ml_52, ml_53, ml_54, ml_55, ml_56, ml_57, ml_58, ml_60, ml_61, ml_62, ml_63, ml_64, ml_72, ml_74, ml_76, ml_78, Int.toNat_natCast, h1]
      rfl
    · have o1 : onp M p i = false := decide_eq_false c1
      rw [o1, ite_ff]
      simp (disch := omega) only [isO, ↓bnd_eq, ↓reduceIte, ↓drf_some, ↓cal_some, ↓calx_inl, ↓calx_inr, ↓opt_some, ↓opt_none, w32_of, ix_of, inR, le_t, le_f, lt_t, lt_f, eq_t, eq_f, and_self, true_and, and_true, false_and, and_false, not_true_eq_false, not_false_eq_true, or_true, true_or, or_false, false_or, Bool.false_eq_true, p2_1, p2_2, p1_, s1_1, s1_2, s2_, ml_0, ml_3, ml_4, ml_6, ml_9, ml_10, ml_11, ml_12, ml_14, ml_15, ml_16, ml_17, ml_18, ml_19, ml_20, ml_21, ml_23, ml_24, ml_25, ml_26, ml_27, ml_28, ml_29, ml_30, ml_31, ml_32, ml_33, ml_34, ml_35, ml_37, ml_38, ml_41, ml_42, ml_43, ml_44, ml_45, ml_46, ml_47, ml_49, ml_50, ml_52, ml_53, ml_54, ml_55, ml_56, ml_57, ml_58, ml_60, ml_61, ml_62, ml_63, ml_64, ml_72, ml_74, ml_76, ml_78, Int.toNat_natCast, h1]
      rw [Int.add_zero]
      rfl
  · have e : i = nv := by omega
    subst e
    have hr := cnt_le (onp M p) i
    simp (disch := omega) only [isO, ↓bnd_eq, ↓reduceIte, ↓drf_some, ↓cal_some, ↓calx_inl, ↓calx_inr, ↓opt_some, ↓opt_none, w32_of, ix_of, inR, le_t, le_f, lt_t, lt_f, eq_t, eq_f, and_self, true_and, and_true, false_and, and_false, not_true_eq_false, not_false_eq_true, or_true, true_or, or_false, false_or, Bool.false_eq_true, p2_1, p2_2, p1_, s1_1, s1_2, s2_, ml_0, ml_3, ml_4, ml_6, ml_9, ml_10, ml_11, ml_12, ml_14, ml_15, ml_16, ml_17, ml_18, ml_19, ml_20, ml_21, ml_23, ml_24, ml_25, ml_26, ml_27, ml_28, ml_29, ml_30, ml_31, ml_32, ml_33, ml_34, ml_35, ml_37, ml_38, ml_41, ml_42, ml_43, ml_44, ml_45, ml_46, ml_47, ml_49, ml_50, ml_52, ml_53, ml_54, ml_55, ml_56, ml_57, ml_58, ml_60, ml_61, ml_62, ml_63, ml_64, ml_72, ml_74, ml_76, ml_78, h1]
theorem X12_presentOf_ (h : VI M nv) {p : Int} (hp : I32 p) : fX12_presentOf p M = some (prs M p nv, M) := by
  have hh := h
  obtain ⟨h1, h2, h3, h4, h5⟩ := h
  unfold fX12_presentOf
  rw [bnd_eq]
  refine (lpn_rule (P := fun mm (L : Int → Int → Md → Option (Int × Md)) => ∀ i : Nat, i ≤ nv → nv - i < mm → L (prs M p i) (i : Int) M = some (prs M p nv, M)) (fun i _ h => absurd h (Nat.not_lt_zero _)) (fun mm L hL i hi hm => ?_) FU) 0 (Nat.zero_le _) (by unfold FU; omega)
  rcases Nat.lt_or_ge i nv with hlt | hge
  · have ih := hL (i + 1) hlt (by omega)
    have p1 := h4 i hlt
    have pr := prs_rng M p i
    by_cases c1 : M.2 12 i = p
    · have o1 : onp M p i = true := decide_eq_true c1
      by_cases c2 : prs M p i = -1
      · have e9 : prs M p (i + 1) = (i : Int) := by rw [prs_succ, if_pos ⟨o1, Or.inl c2⟩]
        rw [e9] at ih
        rw [← ih]
        simp (disch := omega) only [isO, ↓bnd_eq, ↓reduceIte, ↓drf_some, ↓cal_some, ↓calx_inl, ↓calx_inr, ↓opt_some, ↓opt_none, w32_of, ix_of, inR, le_t, le_f, lt_t, lt_f, eq_t, eq_f, and_self, true_and, and_true, false_and, and_false, not_true_eq_false, not_false_eq_true, or_true, true_or, or_false, false_or, Bool.false_eq_true, p2_1, p2_2, p1_, s1_1, s1_2, s2_, ml_0, ml_3, ml_4, ml_6, ml_9, ml_10, ml_11, ml_12, ml_14, ml_15, ml_16, ml_17, ml_18, ml_19, ml_20, ml_21, ml_23, ml_24, ml_25, ml_26, ml_27, ml_28, ml_29, ml_30, ml_31, ml_32, ml_33, ml_34, ml_35, ml_37, ml_38, ml_41, ml_42, ml_43, ml_44, ml_45, ml_46, ml_47, ml_49, ml_50, ml_52, ml_53, ml_54, ml_55, ml_56, ml_57, ml_58, ml_60, ml_61, ml_62, ml_63, ml_64, ml_72, ml_74, ml_76, ml_78, Int.toNat_natCast, h1]
        rfl
      · have pr2 : 0 ≤ prs M p i ∧ prs M p i < (i : Int) := pr.resolve_left c2
        have ha := X12_isAhead_ hh (v := (prs M p i).toNat) (o := i) (by omega) hlt
        rw [show (((prs M p i).toNat : Nat) : Int) = prs M p i by omega] at ha
        by_cases c3 : ahd M (prs M p i).toNat i = true
        · rw [c3, ite_tt] at ha
          have e9 : prs M p (i + 1) = (i : Int) := by rw [prs_succ, if_pos ⟨o1, Or.inr c3⟩]
          rw [e9] at ih
          rw [← ih]
          simp (disch := omega) only [isO, ↓bnd_eq, ↓reduceIte, ↓drf_some, ↓cal_some, ↓calx_inl, ↓calx_inr, ↓opt_some, ↓opt_none, w32_of, ix_of, inR, le_t, le_f, lt_t, lt_f, eq_t, eq_f, and_self, true_and, and_true, false_and, and_false, not_true_eq_false, not_false_eq_true, or_true, true_or, or_false, false_or, Bool.false_eq_true, p2_1, p2_2, p1_, s1_1, s1_2, s2_, ml_0, ml_3, ml_4, ml_6, ml_9, ml_10, ml_11, ml_12, ml_14, ml_15, ml_16, ml_17, ml_18, ml_19, ml_20, ml_21, ml_23, ml_24, ml_25, ml_26, ml_27, ml_28, ml_29, ml_30, ml_31, ml_32, ml_33, ml_34, ml_35, ml_37, ml_38, ml_41, ml_42, ml_43, ml_44, ml_45, ml_46, ml_47, ml_49, ml_50, ml_52, ml_53, ml_54, ml_55, ml_56, ml_57, ml_58, ml_60, ml_61, ml_62, ml_63, ml_64, ml_72, ml_74, ml_76, ml_78, Int.toNat_natCast, h1, ↓cal_of ha]
          rfl
        · rw [if_neg c3] at ha
          have e9 : prs M p (i + 1) = prs M p i := by rw [prs_succ, if_neg (fun q => q.2.elim c2 c3)]
          rw [e9] at ih
          rw [← ih]
          simp (disch := omega) only [isO, ↓bnd_eq, ↓reduceIte, ↓drf_some, ↓cal_some, ↓calx_inl, ↓calx_inr, ↓opt_some, ↓opt_none, w32_of, ix_of, inR, le_t, le_f, lt_t, lt_f, eq_t, eq_f, and_self, true_and, and_true, false_and, and_false, not_true_eq_false, not_false_eq_true, or_true, true_or, or_false, false_or, Bool.false_eq_true, p2_1, p2_2, p1_, s1_1, s1_2, s2_, ml_0, ml_3, ml_4, ml_6, ml_9, ml_10, ml_11, ml_12, ml_14, ml_15, ml_16, ml_17, ml_18, ml_19, ml_20, ml_21, ml_23, ml_24, ml_25, ml_26, ml_27, ml_28, ml_29, ml_30, ml_31, ml_32, ml_33, ml_34, ml_35, ml_37, ml_38, ml_41, ml_42, ml_43, ml_44, ml_45, ml_46, ml_47, ml_49, ml_50, ml_52, ml_53, ml_54, ml_55, ml_56, ml_57, ml_58, ml_60, ml_61, ml_62, ml_63, ml_64, ml_72, ml_74, ml_76, ml_78, Int.toNat_natCast, h1, ↓cal_of ha]
          rfl
    · have o1 : ¬ onp M p i = true := by rw [show onp M p i = false from decide_eq_false c1]; exact Bool.false_ne_true
      have e9 : prs M p (i + 1) = prs M p i := by rw [prs_succ, if_neg (fun q => o1 q.1)]
      rw [e9] at ih
      rw [← ih]
      simp (disch := omega) only [isO, ↓bnd_eq, ↓reduceIte, ↓drf_some, ↓cal_some, ↓calx_inl, ↓calx_inr, ↓opt_some, ↓opt_none, w32_of, ix_of, inR, le_t, le_f, lt_t, lt_f, eq_t, eq_f, and_self, true_and, and_true, false_and, and_false, not_true_eq_false, not_false_eq_true, or_true, true_or, or_false, false_or, Bool.false_eq_true, p2_1, p2_2, p1_, s1_1, s1_2, s2_, ml_0, ml_3, ml_4, ml_6, ml_9, ml_10, ml_11, ml_12, ml_14, ml_15, ml_16, ml_17, ml_18, ml_19, ml_20, ml_21, ml_23, ml_24, ml_25, ml_26, ml_27, ml_28, ml_29, ml_30, ml_31, ml_32, ml_33, ml_34, ml_35, ml_37, ml_38, ml_41, ml_42, ml_43, ml_44, ml_45, ml_46, ml_47, ml_49, ml_50, ml_52, ml_53, ml_54, ml_55, ml_56, ml_57, ml_58, ml_60, ml_61, ml_62, ml_63, ml_64, ml_72, ml_74, ml_76, ml_78, Int.toNat_natCast, h1]
      rfl
  · have e : i = nv := by omega
    subst e
    simp (disch := omega) only [isO, ↓bnd_eq, ↓reduceIte, ↓drf_some, ↓cal_some, ↓calx_inl, ↓calx_inr, ↓opt_some, ↓opt_none, w32_of, ix_of, inR, le_t, le_f, lt_t, lt_f, eq_t, eq_f, and_self, true_and, and_true, false_and, and_false, not_true_eq_false, not_false_eq_true, or_true, true_or, or_false, false_or, Bool.false_eq_true, p2_1, p2_2, p1_, s1_1, s1_2, s2_, ml_0, ml_3, ml_4, ml_6, ml_9, ml_10, ml_11, ml_12, ml_14, ml_15, ml_16, ml_17, ml_18, ml_19, ml_20, ml_21, ml_23, ml_24, ml_25, ml_26, ml_27, ml_28, ml_29, ml_30, ml_31, ml_32, ml_33, ml_34, ml_35, ml_37, ml_38, ml_41, ml_42, ml_43, ml_44, ml_45, ml_46, ml_47, ml_49, ml_50, ml_52, ml_53, ml_54, ml_55, ml_56, ml_57, ml_58, ml_60, ml_61, ml_62, ml_63, ml_64, ml_72, ml_74, ml_76, ml_78, h1]
/-- the version at a title -/
def prAt (M : Md) (nv : Nat) (t : Nat) : Int := if M.2 6 t = -1 then -1 else prs M (M.2 6 t) nv
theorem X12_presentAt_ (h : VI M nv) {t : Nat} (ht : t < 24) (hp : I32 (M.2 6 t)) : fX12_presentAt (t : Int) M = some (prAt M nv t, M) := by
  unfold fX12_presentAt prAt
  have hq := X12_presentOf_ h hp
  by_cases c : M.2 6 t = -1
  · rw [if_pos c]
    simp (disch := omega) only [isO, ↓bnd_eq, ↓reduceIte, ↓drf_some, ↓cal_some, ↓calx_inl, ↓calx_inr, ↓opt_some, ↓opt_none, w32_of, ix_of, inR, le_t, le_f, lt_t, lt_f, eq_t, eq_f, and_self, true_and, and_true, false_and, and_false, not_true_eq_false, not_false_eq_true, or_true, true_or, or_false, false_or, Bool.false_eq_true, p2_1, p2_2, p1_, s1_1, s1_2, s2_, ml_0, ml_3, ml_4, ml_6, ml_9, ml_10, ml_11, ml_12, ml_14, ml_15, ml_16, ml_17, ml_18, ml_19, ml_20, ml_21, ml_23, ml_24, ml_25, ml_26, ml_27, ml_28, ml_29, ml_30, ml_31, ml_32, ml_33, ml_34, ml_35, ml_37, ml_38, ml_41, ml_42, ml_43, ml_44, ml_45, ml_46, ml_47, ml_49, ml_50, ml_52, ml_53, ml_54, ml_55, ml_56, ml_57, ml_58, ml_60, ml_61, ml_62, ml_63, ml_64, ml_72, ml_74, ml_76, ml_78, Int.toNat_natCast, c]
  · rw [if_neg c]
    simp (disch := omega) only [isO, ↓bnd_eq, ↓reduceIte, ↓drf_some, ↓cal_some, ↓calx_inl, ↓calx_inr, ↓opt_some, ↓opt_none, w32_of, ix_of, inR, le_t, le_f, lt_t, lt_f, eq_t, eq_f, and_self, true_and, and_true, false_and, and_false, not_true_eq_false, not_false_eq_true, or_true, true_or, or_false, false_or, Bool.false_eq_true, p2_1, p2_2, p1_, s1_1, s1_2, s2_, ml_0, ml_3, ml_4, ml_6, ml_9, ml_10, ml_11, ml_12, ml_14, ml_15, ml_16, ml_17, ml_18, ml_19, ml_20, ml_21, ml_23, ml_24, ml_25, ml_26, ml_27, ml_28, ml_29, ml_30, ml_31, ml_32, ml_33, ml_34, ml_35, ml_37, ml_38, ml_41, ml_42, ml_43, ml_44, ml_45, ml_46, ml_47, ml_49, ml_50, ml_52, ml_53, ml_54, ml_55, ml_56, ml_57, ml_58, ml_60, ml_61, ml_62, ml_63, ml_64, ml_72, ml_74, ml_76, ml_78, Int.toNat_natCast, ↓cal_of hq]
/-- the first version of a page at a place -/
def vin (M : Md) (p : Int) (nv : Nat) (x : Int) : Nat → Nat → Int
  | _, 0 => -1
  | i, m + 1 => if onp M p i = true ∧ (rk M i nv : Int) = x then (i : Int) else vin M p nv x (i + 1) m
theorem X12_versionIn_ (h : VI M nv) {p x : Int} (hp : I32 p) (hx : I32 x) : fX12_versionIn p x M = some (vin M p nv x 0 nv, M) := by
  have hh := h
  obtain ⟨h1, h2, h3, h4, h5⟩ := h
  unfold fX12_versionIn
  rw [bnd_eq]
  refine (lpn_rule (P := fun mm (L : Int → Md → Option (Int × Md)) => ∀ i : Nat, i ≤ nv → nv - i < mm → L (i : Int) M = some (vin M p nv x i (nv - i), M)) (fun i _ h => absurd h (Nat.not_lt_zero _)) (fun mm L hL i hi hm => ?_) FU) 0 (Nat.zero_le _) (by unfold FU; omega)
  rcases Nat.lt_or_ge i nv with hlt | hge
  · have ih := hL (i + 1) hlt (by omega)
    have e2 : nv - i = (nv - (i + 1)) + 1 := by omega
    have p1 := h4 i hlt
    have ha := X12_aheadOf_ hh hlt
    have hr : rk M i nv ≤ nv := cnt_le _ nv
    rw [e2]
    by_cases c1 : M.2 12 i = p
    · have o1 : onp M p i = true := decide_eq_true c1
      by_cases c2 : (rk M i nv : Int) = x
      · have e9 : vin M p nv x i (nv - (i + 1) + 1) = (i : Int) := by rw [vin, if_pos ⟨o1, c2⟩]
        rw [e9]
        simp (disch := omega) only [isO, ↓bnd_eq, ↓reduceIte, ↓drf_some, ↓cal_some, ↓calx_inl, ↓calx_inr, ↓opt_some, ↓opt_none, w32_of, ix_of, inR, le_t, le_f, lt_t, lt_f, eq_t, eq_f, and_self, true_and, and_true, false_and, and_false, not_true_eq_false, not_false_eq_true, or_true, true_or, or_false, false_or, Bool.false_eq_true, p2_1, p2_2, p1_, s1_1, s1_2, s2_, ml_0, ml_3, ml_4, ml_6, ml_9, ml_10, ml_11, ml_12, ml_14, ml_15, ml_16, ml_17, ml_18, ml_19, ml_20, ml_21, ml_23, ml_24, ml_25, ml_26, ml_27, ml_28, ml_29, ml_30, ml_31, ml_32, ml_33, ml_34, ml_35, ml_37, ml_38, ml_41, ml_42, ml_43, ml_44, ml_45, ml_46, ml_47, ml_49, ml_50, ml_52, ml_53, ml_54, ml_55, ml_56, ml_57, ml_58, ml_60, ml_61, ml_62, ml_63, ml_64, ml_72, ml_74, ml_76, ml_78, Int.toNat_natCast, h1, ↓cal_of ha]
      · have e9 : vin M p nv x i (nv - (i + 1) + 1) = vin M p nv x (i + 1) (nv - (i + 1)) := by rw [vin, if_neg (fun q => c2 q.2)]
        rw [e9, ← ih]
        simp (disch := omega) only [isO, ↓bnd_eq, ↓reduceIte, ↓drf_some, ↓cal_some, ↓calx_inl, ↓calx_inr, ↓opt_some, ↓opt_none, w32_of, ix_of, inR, le_t, le_f, lt_t, lt_f, eq_t, eq_f, and_self, true_and, and_true, false_and, and_false, not_true_eq_false, not_false_eq_true, or_true, true_or, or_false, false_or, Bool.false_eq_true, p2_1, p2_2, p1_, s1_1, s1_2, s2_, ml_0, ml_3, ml_4, ml_6, ml_9, ml_10, ml_11, ml_12, ml_14, ml_15, ml_16, ml_17, ml_18, ml_19, ml_20, ml_21, ml_23, ml_24, ml_25, ml_26, ml_27, ml_28, ml_29, ml_30, ml_31, ml_32, ml_33, ml_34, ml_35, ml_37, ml_38, ml_41, ml_42, ml_43, ml_44, ml_45, ml_46, ml_47, ml_49, ml_50, ml_52, ml_53, ml_54, ml_55, ml_56, ml_57, ml_58, ml_60, ml_61, ml_62, ml_63, ml_64, ml_72, ml_74, ml_76, ml_78, Int.toNat_natCast, h1, ↓cal_of ha]
        rfl
    · have o1 : ¬ onp M p i = true := by rw [show onp M p i = false from decide_eq_false c1]; exact Bool.false_ne_true
      have e9 : vin M p nv x i (nv - (i + 1) + 1) = vin M p nv x (i + 1) (nv - (i + 1)) := by rw [vin, if_neg (fun q => o1 q.1)]
      rw [e9, ← ih]
      simp (disch := omega) only [isO, ↓bnd_eq, ↓reduceIte, ↓drf_some, ↓cal_some, ↓calx_inl, ↓calx_inr, ↓opt_some, ↓opt_none, w32_of, ix_of, inR, le_t, le_f, lt_t, lt_f, eq_t, eq_f, and_self, true_and, and_true, false_and, and_false, not_true_eq_false, not_false_eq_true, or_true, true_or, or_false, false_or, Bool.false_eq_true, p2_1, p2_2, p1_, s1_1, s1_2, s2_, ml_0, ml_3, ml_4, ml_6, ml_9, ml_10, ml_11, ml_12, ml_14, ml_15, ml_16, ml_17, ml_18, ml_19, ml_20, ml_21, ml_23, ml_24, ml_25, ml_26, ml_27, ml_28, ml_29, ml_30, ml_31, ml_32, ml_33, ml_34, ml_35, ml_37, ml_38, ml_41, ml_42, ml_43, ml_44, ml_45, ml_46, ml_47, ml_49, ml_50, ml_52, ml_53, ml_54, ml_55, ml_56, ml_57, ml_58, ml_60, ml_61, ml_62, ml_63, ml_64, ml_72, ml_74, ml_76, ml_78, Int.toNat_natCast, h1]
      rfl
  · have e : i = nv := by omega
    subst e
    rw [Nat.sub_self]
    simp (disch := omega) only [isO, ↓bnd_eq, ↓reduceIte, ↓drf_some, ↓cal_some, ↓calx_inl, ↓calx_inr, ↓opt_some, ↓opt_none, w32_of, ix_of, inR, le_t, le_f, lt_t, lt_f, eq_t, eq_f, and_self, true_and, and_true, false_and, and_false, not_true_eq_false, not_false_eq_true, or_true, true_or, or_false, false_or, Bool.false_eq_true, p2_1, p2_2, p1_, s1_1, s1_2, s2_, ml_0, ml_3, ml_4, ml_6, ml_9, ml_10, ml_11, ml_12, ml_14, ml_15, ml_16, ml_17, ml_18, ml_19, ml_20, ml_21, ml_23, ml_24, ml_25, ml_26, ml_27, ml_28, ml_29, ml_30, ml_31, ml_32, ml_33, ml_34, ml_35, ml_37, ml_38, ml_41, ml_42, ml_43, ml_44, ml_45, ml_46, ml_47, ml_49, ml_50, ml_52, ml_53, ml_54, ml_55, ml_56, ml_57, ml_58, ml_60, ml_61, ml_62, ml_63, ml_64, ml_72, ml_74, ml_76, ml_78, h1]
    rfl
/-- the texts of versions -/
def tx (M : Md) (v : Nat) : Nat → Int := fun k => M.2 9 (30 * v + k)
def tl (M : Md) (v : Nat) : Nat := (M.2 10 v).toNat
def TI (M : Md) (nv : Nat) : Prop := ∀ v, v < nv → isTx (tx M v) (tl M v) = true ∧ Tkv (tx M v) (tl M v)
theorem Tkv.tks {g : Nat → Int} {n : Nat} (h : Tkv g n) : Tks g n := fun k hk => ⟨(h k hk).1, (h k hk).2.1⟩
theorem tx_mv (h : VI M nv) (ht : TI M nv) {v : Nat} (hv : v < nv) : MV M 9 (30 * v) (tx M v) (tl M v) := by
  have h5 := h.2.2.2.2 v hv
  have h2 := h.2.1
  refine ⟨?_, by decide, fun i hi => rfl, (ht v hv).2.tks⟩
  rw [ml_9]
  unfold tl
  omega
theorem tl_eq (h : VI M nv) {v : Nat} (hv : v < nv) : M.2 10 v = ((tl M v : Nat) : Int) := by
  have h5 := h.2.2.2.2 v hv
  unfold tl
  omega
theorem X12_sectionsOf_ (h : VI M nv) (ht : TI M nv) {v : Nat} (hv : v < nv) : fX12_sectionsOf (v : Int) M = some (((1 + secs (tx M v) (tl M v) : Nat) : Int), M) := by
  have h2 := h.2.1
  have q := X12_sectionMany_ (tx_mv h ht hv)
  rw [show ((30 * v : Nat) : Int) = 30 * (v : Int) by omega] at q
  unfold fX12_sectionsOf
  simp (disch := omega) only [isO, ↓bnd_eq, ↓reduceIte, ↓drf_some, ↓cal_some, ↓calx_inl, ↓calx_inr, ↓opt_some, ↓opt_none, w32_of, ix_of, inR, le_t, le_f, lt_t, lt_f, eq_t, eq_f, and_self, true_and, and_true, false_and, and_false, not_true_eq_false, not_false_eq_true, or_true, true_or, or_false, false_or, Bool.false_eq_true, p2_1, p2_2, p1_, s1_1, s1_2, s2_, ml_0, ml_3, ml_4, ml_6, ml_9, ml_10, ml_11, ml_12, ml_14, ml_15, ml_16, ml_17, ml_18, ml_19, ml_20, ml_21, ml_23, ml_24, ml_25, ml_26, ml_27, ml_28, ml_29, ml_30, ml_31, ml_32, ml_33, ml_34, ml_35, ml_37, ml_38, ml_41, ml_42, ml_43, ml_44, ml_45, ml_46, ml_47, ml_49, ml_50, ml_52, ml_53, ml_54, ml_55, ml_56, ml_57, ml_58, ml_60, ml_61, ml_62, ml_63, ml_64, ml_72, ml_74, ml_76, ml_78, Int.toNat_natCast, tl_eq h hv, ↓cal_of q]
end MVER
