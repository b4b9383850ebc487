/-! THE REFERENCE'S TEXTS: a stretch of a row -/
theorem lpn_succ {α : Type} (z : α) (body : α → α) (n : Nat) : lpn z body (n + 1) = body (lpn z body n) := rfl
def MV (M : Md) (k fr : Nat) (g : Nat → Int) (n : Nat) : Prop := fr + n ≤ mLen k ∧ mLen k ≤ 3600 ∧ (∀ i, i < n → M.2 k (fr + i) = g i) ∧ Tks g n
/-- only some slots, only some rows are other -/
def MO (S R : Nat → Prop) (M M' : Md) : Prop := (∀ k, ¬ S k → M'.1 k = M.1 k) ∧ ∀ k, ¬ R k → M'.2 k = M.2 k
theorem MO.rf (S R : Nat → Prop) (M : Md) : MO S R M M := ⟨fun _ _ => rfl, fun _ _ => rfl⟩
theorem MO.tr {S R : Nat → Prop} {M M1 M2 : Md} (h : MO S R M M1) (h1 : MO S R M1 M2) : MO S R M M2 := ⟨fun k q => (h1.1 k q).trans (h.1 k q), fun k q => (h1.2 k q).trans (h.2 k q)⟩
theorem MO.mono {S R S' R' : Nat → Prop} {M M' : Md} (h : MO S R M M') (a : ∀ k, S k → S' k) (b : ∀ k, R k → R' k) : MO S' R' M M' := ⟨fun k q => h.1 k (fun z => q (a k z)), fun k q => h.2 k (fun z => q (b k z))⟩
theorem mPut_ne (M : Md) {k k' : Nat} (i : Nat) (x : Int) (h : k' ≠ k) : (mPut M k i x).2 k' = M.2 k' := if_neg h
theorem MO.put {S R : Nat → Prop} (M : Md) (k i : Nat) (x : Int) (h : R k) : MO S R M (mPut M k i x) := ⟨fun _ _ => rfl, fun k' q => mPut_ne M i x (fun e => q (e ▸ h))⟩
theorem MO.set {S R : Nat → Prop} (M : Md) (k : Nat) (x : Int) (h : S k) : MO S R M (mSet M k x) := ⟨fun k' q => s1_2 M x (fun e => q (e ▸ h)), fun _ _ => rfl⟩
theorem MV.keep {S R : Nat → Prop} {M M' : Md} {k fr n : Nat} {g : Nat → Int} (h : MV M k fr g n) (o : MO S R M M') (q : ¬ R k) : MV M' k fr g n := ⟨h.1, h.2.1, fun i hi => by rw [o.2 k q]; exact h.2.2.1 i hi, h.2.2.2⟩
abbrev I32 (x : Int) : Prop := -2147483648 ≤ x ∧ x < 2147483648
theorem X12_in_ {x lo hi : Int} (M : Md) (hx : I32 x) (hl : I32 lo) (hh : I32 hi) : BR (fX12_in x lo hi M) M (lo ≤ x ∧ x ≤ hi) := by
  obtain ⟨x1, x2⟩ := hx
  obtain ⟨l1, l2⟩ := hl
  obtain ⟨h1, h2⟩ := hh
  unfold fX12_in
  by_cases c1 : x < lo
  · refine Or.inr ⟨?_, fun q => by omega⟩
    simp (disch := omega) only [isO, ↓bnd_eq, ↓reduceIte, ↓drf_some, ↓cal_some, ↓calx_inl, ↓calx_inr, ↓opt_some, ↓opt_none, w32_of, ix_of, inR, le_t, le_f, lt_t, lt_f, eq_t, eq_f, and_self, true_and, and_true, false_and, and_false, not_true_eq_false, not_false_eq_true, or_true, true_or, or_false, false_or, Bool.false_eq_true, retZ]
  · by_cases c2 : hi < x
    · refine Or.inr ⟨?_, fun q => by omega⟩
      simp (disch := omega) only [isO, ↓bnd_eq, ↓reduceIte, ↓drf_some, ↓cal_some, ↓calx_inl, ↓calx_inr, ↓opt_some, ↓opt_none, w32_of, ix_of, inR, le_t, le_f, lt_t, lt_f, eq_t, eq_f, and_self, true_and, and_true, false_and, and_false, not_true_eq_false, not_false_eq_true, or_true, true_or, or_false, false_or, Bool.false_eq_true, retZ]
    · refine Or.inl ⟨?_, by omega, by omega⟩
      simp (disch := omega) only [isO, ↓bnd_eq, ↓reduceIte, ↓drf_some, ↓cal_some, ↓calx_inl, ↓calx_inr, ↓opt_some, ↓opt_none, w32_of, ix_of, inR, le_t, le_f, lt_t, lt_f, eq_t, eq_f, and_self, true_and, and_true, false_and, and_false, not_true_eq_false, not_false_eq_true, or_true, true_or, or_false, false_or, Bool.false_eq_true, retZ]
theorem X12_opens_ {k : Int} (M : Md) (h1 : -1 ≤ k) (h2 : k < 14) : fX12_opens k M = some (if opB k = true then 1 else 0, M) := by
  have h3 : k = -1 ∨ k = 0 ∨ k = 1 ∨ k = 2 ∨ k = 3 ∨ k = 4 ∨ k = 5 ∨ k = 6 ∨ k = 7 ∨ k = 8 ∨ k = 9 ∨ k = 10 ∨ k = 11 ∨ k = 12 ∨ k = 13 := by omega
  rcases h3 with h | h | h | h | h | h | h | h | h | h | h | h | h | h | h <;> subst h <;> rfl
section MTX
variable {M : Md} {k j fr fs n m : Nat} {g f : Nat → Int}
theorem MV.sum {i : Nat} (h : MV M k fr g n) (hi : i < n) : M.2 k (((fr : Int) + i).toNat) = g i := by
  rw [show ((fr : Int) + i).toNat = fr + i by omega]
  exact h.2.2.1 i hi
theorem X12_sectionMany_ (h : MV M k fr g n) : fX12_sectionMany k (fr : Int) (n : Int) M = some (((1 + secs g n : Nat) : Int), M) := by
  obtain ⟨h1, h2, h3, h4⟩ := h
  unfold fX12_sectionMany
  rw [bnd_eq]
  refine (lpn_rule (P := fun mm (L : Int → Int → Md → Option (Int × Md)) => ∀ i : Nat, i ≤ n → n - i < mm → L ((1 + secs g i : Nat) : Int) (i : Int) M = some (((1 + secs g n : Nat) : Int), M)) (fun i _ h => absurd h (Nat.not_lt_zero _)) (fun mm L hL i hi hm => ?_) FU) 0 (Nat.zero_le _) (by unfold FU; omega)
  rcases Nat.lt_or_ge i n with hlt | hge
  · have ht := h4 i hlt
    have ih := hL (i + 1) hlt (by omega)
    have hs := MV.sum ⟨h1, h2, h3, h4⟩ hlt
    have hse := secs_le g i
    rw [secs_succ] at ih
    by_cases c1 : g i / 1000 = 13
    · rw [if_pos c1] at ih
      rw [← ih]
      simp (disch := omega) only [isO, ↓bnd_eq, ↓reduceIte, ↓drf_some, ↓cal_some, ↓calx_inl, ↓calx_inr, ↓opt_some, ↓opt_none, w32_of, ix_of, inR, le_t, le_f, lt_t, lt_f, eq_t, eq_f, and_self, true_and, and_true, false_and, and_false, not_true_eq_false, not_false_eq_true, or_true, true_or, or_false, false_or, Bool.false_eq_true, hs, divI_of, c1]
      rfl
    · rw [if_neg c1] at ih
      rw [← ih]
      simp (disch := omega) only [isO, ↓bnd_eq, ↓reduceIte, ↓drf_some, ↓cal_some, ↓calx_inl, ↓calx_inr, ↓opt_some, ↓opt_none, w32_of, ix_of, inR, le_t, le_f, lt_t, lt_f, eq_t, eq_f, and_self, true_and, and_true, false_and, and_false, not_true_eq_false, not_false_eq_true, or_true, true_or, or_false, false_or, Bool.false_eq_true, hs, divI_of, c1]
      rfl
  · have e : i = n := by omega
    subst e
    have hse := secs_le g i
    simp (disch := omega) only [isO, ↓bnd_eq, ↓reduceIte, ↓drf_some, ↓cal_some, ↓calx_inl, ↓calx_inr, ↓opt_some, ↓opt_none, w32_of, ix_of, inR, le_t, le_f, lt_t, lt_f, eq_t, eq_f, and_self, true_and, and_true, false_and, and_false, not_true_eq_false, not_false_eq_true, or_true, true_or, or_false, false_or, Bool.false_eq_true]
theorem X12_sectionFrom_ (h : MV M k fr g n) {s : Nat} (hs : s < 1000) : fX12_sectionFrom k (fr : Int) (n : Int) (s : Int) M = some ((sst g n s : Int), M) := by
  obtain ⟨h1, h2, h3, h4⟩ := h
  unfold fX12_sectionFrom sst
  rw [bnd_eq]
  by_cases h0 : s = 0
  · subst h0
    rw [if_pos rfl]
    rw [show FU = 999999 + 1 from rfl, lpn_succ]
    by_cases c : n = 0
    · simp (disch := omega) only [isO, ↓bnd_eq, ↓reduceIte, ↓drf_some, ↓cal_some, ↓calx_inl, ↓calx_inr, ↓opt_some, ↓opt_none, w32_of, ix_of, inR, le_t, le_f, lt_t, lt_f, eq_t, eq_f, and_self, true_and, and_true, false_and, and_false, not_true_eq_false, not_false_eq_true, or_true, true_or, or_false, false_or, Bool.false_eq_true]
      rfl
    · simp (disch := omega) only [isO, ↓bnd_eq, ↓reduceIte, ↓drf_some, ↓cal_some, ↓calx_inl, ↓calx_inr, ↓opt_some, ↓opt_none, w32_of, ix_of, inR, le_t, le_f, lt_t, lt_f, eq_t, eq_f, and_self, true_and, and_true, false_and, and_false, not_true_eq_false, not_false_eq_true, or_true, true_or, or_false, false_or, Bool.false_eq_true]
      rfl
  · rw [if_neg h0]
    have key := (lpn_rule (P := fun mm (L : Int → Int → Md → Option (Int × Md)) => ∀ i : Nat, i ≤ n → n - i < mm → secs g i < s → L (((s - secs g i : Nat)) : Int) (i : Int) M = some ((sstG g s i (n - i) : Int), M)) (z := fun (_ : Int) (_ : Int) (_ : Md) => (none : Option (Int × Md))) (body := fun L6 (v4_6 : Int) (v5_6 : Int) (M_6 : Md) =>
bnd (fun  (M_55 : Md) =>
bnd (fun (t0_64 : Int) (M_64 : Md) =>
some (t0_64, M_64)) fun J64 =>
if ¬ w32 (s : Int) = 0 then
J64 (n : Int) M_55
else
J64 0 M_55) fun J55 =>
if w32 (n : Int) ≤ w32 v5_6 then
J55 M_6
else
if w32 (s : Int) ≤ 0 then
J55 M_6
else
if inR ((fr : Int) + v5_6) (mLen k) then
bnd (fun (t0_38 : Int) (M_38 : Md) =>
bnd (v4_6 - t0_38) fun (x4_39 : Int) =>
if ¬ w32 x4_39 = 0 then
L6 x4_39 (v5_6 + 1) M_38
else
some (v5_6, M_38)) fun J38 =>
if ¬ w32 (divI (M_6.2 k (ix ((fr : Int) + v5_6))) 1000) = w32 13 then
J38 0 M_6
else
J38 1 M_6
else none) (fun i _ h => absurd h (Nat.not_lt_zero _)) (fun mm L hL i hi hm hsec => ?_) FU) 0 (Nat.zero_le _) (by unfold FU; omega) (by show 0 < s; omega)
    · exact key
    · rcases Nat.lt_or_ge i n with hlt | hge
      · have ht := h4 i hlt
        have ih := hL (i + 1) hlt (by omega)
        have hss := MV.sum ⟨h1, h2, h3, h4⟩ hlt
        have e2 : n - i = (n - (i + 1)) + 1 := by omega
        rw [e2]
        rw [secs_succ] at ih
        by_cases c1 : g i / 1000 = 13
        · rw [if_pos c1] at ih
          by_cases c2 : secs g i + 1 = s
          · rw [sstG_hit _ c1 c2]
            have e3 : (((s - secs g i : Nat)) : Int) = 1 := by omega
            rw [e3]
            simp (disch := omega) only [isO, ↓bnd_eq, ↓reduceIte, ↓drf_some, ↓cal_some, ↓calx_inl, ↓calx_inr, ↓opt_some, ↓opt_none, w32_of, ix_of, inR, le_t, le_f, lt_t, lt_f, eq_t, eq_f, and_self, true_and, and_true, false_and, and_false, not_true_eq_false, not_false_eq_true, or_true, true_or, or_false, false_or, Bool.false_eq_true, hss, divI_of, c1]
          · have ih2 := ih (by omega)
            rw [sstG_miss _ c1 c2, ← ih2]
            have e3 : (((s - (secs g i + 1) : Nat)) : Int) = ((s - secs g i : Nat) : Int) - 1 := by omega
            rw [e3]
            simp (disch := omega) only [isO, ↓bnd_eq, ↓reduceIte, ↓drf_some, ↓cal_some, ↓calx_inl, ↓calx_inr, ↓opt_some, ↓opt_none, w32_of, ix_of, inR, le_t, le_f, lt_t, lt_f, eq_t, eq_f, and_self, true_and, and_true, false_and, and_false, not_true_eq_false, not_false_eq_true, or_true, true_or, or_false, false_or, Bool.false_eq_true, hss, divI_of, c1]
            rfl
        · rw [if_neg c1] at ih
          have ih2 := ih (by omega)
          rw [sstG_skip _ c1, ← ih2]
          rw [Nat.add_zero]
          simp (disch := omega) only [isO, ↓bnd_eq, ↓reduceIte, ↓drf_some, ↓cal_some, ↓calx_inl, ↓calx_inr, ↓opt_some, ↓opt_none, w32_of, ix_of, inR, le_t, le_f, lt_t, lt_f, eq_t, eq_f, and_self, true_and, and_true, false_and, and_false, not_true_eq_false, not_false_eq_true, or_true, true_or, or_false, false_or, Bool.false_eq_true, hss, divI_of, c1]
          rw [Int.sub_zero]
          rfl
      · have e : i = n := by omega
        subst e
        rw [Nat.sub_self]
        simp (disch := omega) only [isO, ↓bnd_eq, ↓reduceIte, ↓drf_some, ↓cal_some, ↓calx_inl, ↓calx_inr, ↓opt_some, ↓opt_none, w32_of, ix_of, inR, le_t, le_f, lt_t, lt_f, eq_t, eq_f, and_self, true_and, and_true, false_and, and_false, not_true_eq_false, not_false_eq_true, or_true, true_or, or_false, false_or, Bool.false_eq_true]
        rfl
theorem X12_areAlike_ (h : MV M k fr g n) (h2 : MV M j fs f m) {s : Nat} (hs : s < 900) : BR (fX12_areAlike k (fr : Int) (n : Int) j (fs : Int) (m : Int) (s : Int) M) M (SameS g n f m s) := by
  have l1 := sst_le g n s
  have l2 := sst_le g n (s + 1)
  have l3 := sst_le f m s
  have l4 := sst_le f m (s + 1)
  have m1 := sst_mono g n (Nat.le_succ s)
  have m2 := sst_mono f m (Nat.le_succ s)
  have q1 := X12_sectionFrom_ h (s := s) (by omega)
  have q2 := X12_sectionFrom_ h (s := s + 1) (by omega)
  have q3 := X12_sectionFrom_ h2 (s := s) (by omega)
  have q4 := X12_sectionFrom_ h2 (s := s + 1) (by omega)
  rw [show ((s + 1 : Nat) : Int) = (s : Int) + 1 from rfl] at q2 q4
  obtain ⟨a1, a2, a3, a4⟩ := h
  obtain ⟨b1, b2, b3, b4⟩ := h2
  generalize hA : sst g n s = A at *
  generalize hB : sst g n (s + 1) = B at *
  generalize hD : sst f m s = D at *
  generalize hE : sst f m (s + 1) = E at *
  unfold fX12_areAlike SameS
  rw [hA, hB, hD, hE]
  have key : ∀ t : Int, (t = 1 ∧ B - A = E - D) ∨ (t = 0 ∧ ¬ B - A = E - D) → BR (lpn (fun (_ : Int) (_ : Int) (_ : Md) => (none : Option (Int × Md))) (fun L67 (v10_67 : Int) (v11_67 : Int) (M_67 : Md) =>
bnd (fun  (M_114 : Md) =>
retZ v10_67 M_114) fun J114 =>
if w32 ((B : Int) - A) ≤ w32 v11_67 then
J114 M_67
else
if w32 v10_67 = 0 then
J114 M_67
else
if inR (((fr : Int) + A) + v11_67) (mLen k) then
if inR (((fs : Int) + D) + v11_67) (mLen j) then
bnd (fun (t0_106 : Int) (M_106 : Md) =>
L67 t0_106 (v11_67 + 1) M_106) fun J106 =>
if ¬ w32 (M_67.2 k (ix (((fr : Int) + A) + v11_67))) = w32 (M_67.2 j (ix (((fs : Int) + D) + v11_67))) then
J106 0 M_67
else
J106 1 M_67
else none
else none) FU t 0 M) M (B - A = E - D ∧ ∀ i, i < B - A → g (A + i) = f (D + i)) := by
    intro t htt
    refine (lpn_rule (P := fun mm (L : Int → Int → Md → Option (Int × Md)) => ∀ (i : Nat) (t : Int), i ≤ B - A → B - A - i < mm → (t = 1 ∧ B - A = E - D ∧ ∀ q, q < i → g (A + q) = f (D + q)) ∨ (t = 0 ∧ ¬ (B - A = E - D ∧ ∀ i, i < B - A → g (A + i) = f (D + i))) → BR (L t (i : Int) M) M (B - A = E - D ∧ ∀ i, i < B - A → g (A + i) = f (D + i))) (fun i _ _ h => absurd h (Nat.not_lt_zero _)) (fun mm L hL i t hi hm ht => ?_) FU) 0 t (Nat.zero_le _) (by unfold FU; omega) (by
        rcases htt with ⟨z1, z2⟩ | ⟨z1, z2⟩
        · exact Or.inl ⟨z1, z2, fun q hq => absurd hq (Nat.not_lt_zero _)⟩
        · exact Or.inr ⟨z1, fun q => z2 q.1⟩)
    rcases ht with ⟨t1, t2, t3⟩ | ⟨t1, t2⟩
    · subst t1
      rcases Nat.lt_or_ge i (B - A) with hlt | hge
      · have u1 := a4 (A + i) (by omega)
        have u2 := b4 (D + i) (by omega)
        have w1 := a3 (A + i) (by omega)
        have w2 := b3 (D + i) (by omega)
        have x1 : (((fr : Int) + A) + i).toNat = fr + (A + i) := by omega
        have x2 : (((fs : Int) + D) + i).toNat = fs + (D + i) := by omega
        by_cases c : g (A + i) = f (D + i)
        · simp (disch := omega) only [isO, ↓bnd_eq, ↓reduceIte, ↓drf_some, ↓cal_some, ↓calx_inl, ↓calx_inr, ↓opt_some, ↓opt_none, w32_of, ix_of, inR, le_t, le_f, lt_t, lt_f, eq_t, eq_f, and_self, true_and, and_true, false_and, and_false, not_true_eq_false, not_false_eq_true, or_true, true_or, or_false, false_or, Bool.false_eq_true, x1, x2, w1, w2, c]
          exact hL (i + 1) 1 hlt (by omega) (Or.inl ⟨rfl, t2, fun q hq => by
            rcases Nat.lt_or_ge q i with z | z
            · exact t3 q z
            · have : q = i := by omega
              subst this; exact c⟩)
        · simp (disch := omega) only [isO, ↓bnd_eq, ↓reduceIte, ↓drf_some, ↓cal_some, ↓calx_inl, ↓calx_inr, ↓opt_some, ↓opt_none, w32_of, ix_of, inR, le_t, le_f, lt_t, lt_f, eq_t, eq_f, and_self, true_and, and_true, false_and, and_false, not_true_eq_false, not_false_eq_true, or_true, true_or, or_false, false_or, Bool.false_eq_true, x1, x2, w1, w2, c]
          exact hL (i + 1) 0 hlt (by omega) (Or.inr ⟨rfl, fun q => c (q.2 i hlt)⟩)
      · refine Or.inl ⟨?_, t2, fun q hq => t3 q (by omega)⟩
        simp (disch := omega) only [isO, ↓bnd_eq, ↓reduceIte, ↓drf_some, ↓cal_some, ↓calx_inl, ↓calx_inr, ↓opt_some, ↓opt_none, w32_of, ix_of, inR, le_t, le_f, lt_t, lt_f, eq_t, eq_f, and_self, true_and, and_true, false_and, and_false, not_true_eq_false, not_false_eq_true, or_true, true_or, or_false, false_or, Bool.false_eq_true, retZ]
    · subst t1
      refine Or.inr ⟨?_, t2⟩
      by_cases c : B - A ≤ i
      · simp (disch := omega) only [isO, ↓bnd_eq, ↓reduceIte, ↓drf_some, ↓cal_some, ↓calx_inl, ↓calx_inr, ↓opt_some, ↓opt_none, w32_of, ix_of, inR, le_t, le_f, lt_t, lt_f, eq_t, eq_f, and_self, true_and, and_true, false_and, and_false, not_true_eq_false, not_false_eq_true, or_true, true_or, or_false, false_or, Bool.false_eq_true, retZ]
      · simp (disch := omega) only [isO, ↓bnd_eq, ↓reduceIte, ↓drf_some, ↓cal_some, ↓calx_inl, ↓calx_inr, ↓opt_some, ↓opt_none, w32_of, ix_of, inR, le_t, le_f, lt_t, lt_f, eq_t, eq_f, and_self, true_and, and_true, false_and, and_false, not_true_eq_false, not_false_eq_true, or_true, true_or, or_false, false_or, Bool.false_eq_true, retZ]
  rw [cal_of q1, cal_of q2, bnd_eq, cal_of q3, cal_of q4, bnd_eq]
  by_cases c : (B : Int) - A = (E : Int) - D
  · rw [if_neg (fun z => z (by rw [w32_of (by omega) (by omega), w32_of (by omega) (by omega)]; exact c))]
    exact key 1 (Or.inl ⟨rfl, by omega⟩)
  · rw [if_pos (fun z => c (by rw [w32_of (by omega) (by omega), w32_of (by omega) (by omega)] at z; exact z))]
    exact key 0 (Or.inr ⟨rfl, by omega⟩)
/-- what is laid: the row of results -/
def RV (M : Md) (g : Nat → Int) (n : Nat) : Prop := M.1 77 = (n : Int) ∧ MV M 76 0 g n
theorem RV.nil (M : Md) (g : Nat → Int) : RV (mSet M 77 0) g 0 := ⟨s1_1 M 77 0, by show 0 + 0 ≤ mLen 76; decide, by decide, fun i hi => absurd hi (Nat.not_lt_zero _), fun i hi => absurd hi (Nat.not_lt_zero _)⟩
theorem RV.ext {n : Nat} (h : RV M g n) (e : ∀ i, i < n → g i = f i) : RV M f n := ⟨h.1, h.2.1, h.2.2.1, fun i hi => (h.2.2.2.1 i hi).trans (e i hi), fun i hi => by rw [← e i hi]; exact h.2.2.2.2 i hi⟩
abbrev oRes : Nat → Prop := fun k => k = 77
abbrev rRes : Nat → Prop := fun k => k = 76
theorem X12_putResult_ (hk : k ≠ 76) {lo hi : Nat} (h2 : hi ≤ m) : ∀ (M : Md) (g : Nat → Int) (n : Nat), lo ≤ hi → RV M g n → MV M k fr f m → n + (hi - lo) ≤ 200 →
    ∃ M', fX12_putResult k ((fr : Int) + lo) ((fr : Int) + hi) M = some ((), M') ∧ RV M' (cat g n (fun i => f (lo + i))) (n + (hi - lo)) ∧ MO oRes rRes M M' := by
  intro M g n h1 hV hW hcap
  unfold fX12_putResult
  rw [bnd_eq]
  refine (lpn_rule (P := fun mm (L : Int → Md → Option (Unit × Md)) => ∀ (i : Nat) (M : Md) (g : Nat → Int) (n : Nat), i ≤ hi → hi - i < mm → RV M g n → MV M k fr f m → n + (hi - i) ≤ 200 → ∃ M', L ((fr : Int) + i) M = some ((), M') ∧ RV M' (cat g n (fun q => f (i + q))) (n + (hi - i)) ∧ MO oRes rRes M M') (fun i _ _ _ _ h => absurd h (Nat.not_lt_zero _)) (fun mm L hL i M g n hii hm hV hW hcap => ?_) FU) lo M g n h1 (by have := hW.2.1; have := hW.1; unfold FU; omega) hV hW hcap
  have hl := hW.2.1
  have hl1 := hW.1
  obtain ⟨r1, r2, r3, r4, r5⟩ := hV
  rcases Nat.lt_or_ge i hi with hlt | hge
  · have him : i < m := by omega
    have ht := hW.2.2.2 i him
    have hs := hW.sum him
    have hV1 : RV (mSet (mPut M 76 n (f i)) 77 ((n : Int) + 1)) (cat g n (fun _ => f i)) (n + 1) := by
      refine ⟨(s1_1 _ _ _).trans (by omega), by rw [ml_76]; omega, r3, fun q hq => ?_, fun q hq => ?_⟩
      · show (mPut M 76 n (f i)).2 76 (0 + q) = _
        rw [Nat.zero_add, p2_3]
        unfold cat
        by_cases z : q < n
        · rw [if_neg (by omega), if_pos z, ← r4 q z, Nat.zero_add]
        · rw [if_pos ⟨rfl, by omega⟩, if_neg z]
      · unfold cat
        by_cases z : q < n
        · rw [if_pos z]; exact r5 q z
        · rw [if_neg z]; exact ht
    have hO1 : MO oRes rRes M (mSet (mPut M 76 n (f i)) 77 ((n : Int) + 1)) := (MO.put (S := oRes) (R := rRes) M 76 n (f i) rfl).tr (MO.set (S := oRes) (R := rRes) _ 77 _ rfl)
    obtain ⟨M2, e2, hV2, hO2⟩ := hL (i + 1) _ _ (n + 1) hlt (by omega) hV1 (hW.keep hO1 hk) (by omega)
    refine ⟨M2, ?_, ?_, hO1.tr hO2⟩
    · rw [← e2]
      have e5 : ((n : Int)).toNat = n := Int.toNat_natCast n
      simp (disch := omega) only [isO, ↓bnd_eq, ↓reduceIte, ↓drf_some, ↓cal_some, ↓calx_inl, ↓calx_inr, ↓opt_some, ↓opt_none, w32_of, ix_of, inR, le_t, le_f, lt_t, lt_f, eq_t, eq_f, and_self, true_and, and_true, false_and, and_false, not_true_eq_false, not_false_eq_true, or_true, true_or, or_false, false_or, Bool.false_eq_true, p2_1, p2_2, p1_, s1_1, s1_2, s2_, ml_0, ml_3, ml_4, ml_6, ml_9, ml_10, ml_11, ml_12, ml_14, ml_15, ml_16, ml_17, ml_18, ml_19, ml_20, ml_21, ml_23, ml_24, ml_25, ml_26, ml_27, ml_28, ml_29, ml_30, ml_31, ml_32, ml_33, ml_34, ml_35, ml_37, ml_38, ml_41, ml_42, ml_43, ml_44, ml_45, ml_46, ml_47, ml_49, ml_50, ml_52, ml_53, ml_54, ml_55, ml_56, ml_57, ml_58, ml_60, ml_61, ml_62, ml_63, ml_64, ml_72, ml_74, ml_76, ml_78, hs, r1, e5]
      rfl
    · have e3 : n + 1 + (hi - (i + 1)) = n + (hi - i) := by omega
      rw [e3] at hV2
      refine hV2.ext (fun q hq => ?_)
      unfold cat
      by_cases q1 : q < n
      · rw [if_pos (by omega), if_pos q1, if_pos q1]
      · rw [if_neg q1]
        by_cases q2 : q < n + 1
        · rw [if_pos q2, if_neg q1]
          have e4 : q = n := by omega
          subst e4
          rw [Nat.sub_self]
          rfl
        · rw [if_neg q2, if_neg q1]
          show f (i + 1 + (q - (n + 1))) = f (i + (q - n))
          congr 1
          omega
  · have e : i = hi := by omega
    subst e
    refine ⟨M, ?_, ?_, MO.rf _ _ _⟩
    · simp (disch := omega) only [isO, ↓bnd_eq, ↓reduceIte, ↓drf_some, ↓cal_some, ↓calx_inl, ↓calx_inr, ↓opt_some, ↓opt_none, w32_of, ix_of, inR, le_t, le_f, lt_t, lt_f, eq_t, eq_f, and_self, true_and, and_true, false_and, and_false, not_true_eq_false, not_false_eq_true, or_true, true_or, or_false, false_or, Bool.false_eq_true]
    · rw [Nat.sub_self, Nat.add_zero]
      exact RV.ext ⟨r1, r2, r3, r4, r5⟩ (fun i hi => (cat_lt hi).symm)
theorem X12_putSection_ (hk : k ≠ 76) (hV : RV M g n) (hW : MV M k fr f m) {s : Nat} (hs : s < 900) (hc : n + (sst f m (s + 1) - sst f m s) ≤ 200) :
    ∃ M', fX12_putSection k (fr : Int) (m : Int) (s : Int) M = some ((), M') ∧ RV M' (cat g n (fun i => f (sst f m s + i))) (n + (sst f m (s + 1) - sst f m s)) ∧ MO oRes rRes M M' := by
  have q1 := X12_sectionFrom_ hW (s := s) (by omega)
  have q2 := X12_sectionFrom_ hW (s := s + 1) (by omega)
  rw [show ((s + 1 : Nat) : Int) = (s : Int) + 1 from rfl] at q2
  obtain ⟨M', e, t, o⟩ := X12_putResult_ (k := k) (fr := fr) (m := m) (f := f) hk (lo := sst f m s) (hi := sst f m (s + 1)) (sst_le f m (s + 1)) M g n (sst_mono f m (Nat.le_succ s)) hV hW hc
  refine ⟨M', ?_, t, o⟩
  unfold fX12_putSection
  simp (disch := omega) only [isO, ↓bnd_eq, ↓reduceIte, ↓drf_some, ↓cal_some, ↓calx_inl, ↓calx_inr, ↓opt_some, ↓opt_none, w32_of, ix_of, inR, le_t, le_f, lt_t, lt_f, eq_t, eq_f, and_self, true_and, and_true, false_and, and_false, not_true_eq_false, not_false_eq_true, or_true, true_or, or_false, false_or, Bool.false_eq_true, ↓cal_of q1, ↓cal_of q2, ↓cal_of e]
end MTX
