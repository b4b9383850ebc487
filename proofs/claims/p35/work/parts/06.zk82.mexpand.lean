/-! THE REFERENCE EXPANDS A TITLE'S TEXT -/
section MEX
variable {E : Env} {M : Md} {m t : Nat}
theorem PI.top (ht : t < 24) (hne : eSn E t ≠ -1) : PI E (uFr aS0 (topF E t)) := by
  refine ⟨fun f hf => ?_, ⟨fun f _ p => rfl, Nat.le_refl 1⟩, fun _ _ => okr_nil, Nat.zero_le 40⟩
  have e : f = 0 := by have : f < 1 := hf; omega
  subst e
  exact ⟨⟨⟨t, ht, hne, rfl⟩, ht, by show (0 : Nat) ≤ 6; decide⟩, Or.inl ⟨rfl, fun _ => rfl⟩⟩
theorem X12_expand_ (hE : EnP E) (hM : EnM M E) (h71 : M.1 71 = 0 ∨ (1 ≤ M.1 71 ∧ M.1 71 ≤ 30)) (ht : t < 24) (hne : eSn E t ≠ -1) {acc' : List Int} {s' : ASt} (hrun : runX E m false 0 0 0 0 (eTl E (eSn E t).toNat) [] (uFr aS0 (topF E t)) = some (acc', s')) :
   ∃ M', fX12_expand (t : Int) (eSn E t) M = some ((), M') ∧ ExO M M' ∧ RowM M' 0 acc' ∧ SeM M' s' ∧ (M'.1 71 = 0 ∨ (1 ≤ M'.1 71 ∧ M'.1 71 ≤ 30)) := by
  obtain ⟨c1, c2, c3⟩ := hE.1 t ht hne
  have hP := PI.top (E := E) ht hne
  -- the start
  have hM10 : ∀ M10, M10 = mSet (mSet (mSet (mSet (mSet (mSet (mSet (mSet (mSet (mSet M 40 0) 48 0) 51 0) 59 0) 65 0) 66 0) 67 0) 68 0) 69 0) 70 0 → M10.2 = M.2 ∧ (∀ j, (j < 40 ∨ 70 < j) → M10.1 j = M.1 j) ∧ M10.1 40 = 0 ∧ M10.1 48 = 0 ∧ M10.1 51 = 0 ∧ M10.1 59 = 0 ∧ M10.1 65 = 0 ∧ M10.1 66 = 0 ∧ M10.1 67 = 0 ∧ M10.1 68 = 0 ∧ M10.1 69 = 0 ∧ M10.1 70 = 0 := by
    intro M10 e
    subst e
    refine ⟨rfl, fun j hj => ?_, rfl, rfl, rfl, rfl, rfl, rfl, rfl, rfl, rfl, rfl⟩
    rw [mS2 _ _ (by omega), mS2 _ _ (by omega), mS2 _ _ (by omega), mS2 _ _ (by omega), mS2 _ _ (by omega), mS2 _ _ (by omega), mS2 _ _ (by omega), mS2 _ _ (by omega), mS2 _ _ (by omega), mS2 _ _ (by omega)]
  rw [expand_def, bnd_eq, bnd_eq, bnd_eq, bnd_eq, bnd_eq, bnd_eq, bnd_eq, bnd_eq, bnd_eq, bnd_eq]
  generalize mSet (mSet (mSet (mSet (mSet (mSet (mSet (mSet (mSet (mSet M 40 0) 48 0) 51 0) 59 0) 65 0) 66 0) 67 0) 68 0) 69 0) 70 0 = M10 at *
  obtain ⟨a1, a2, a40, a48, a51, a59, a65, a66, a67, a68, a69, a70⟩ := hM10 M10 rfl
  obtain ⟨n1, n2⟩ := X12_newRow_ (M := M10) (d := 0) a48 (by decide)
  have hM11 : ∀ M11, M11 = mSet (mPut M10 49 0 0) 48 (((0 : Nat) : Int) + 1) → M11.1 48 = ((1 : Nat) : Int) ∧ (∀ j, j ≠ 48 → M11.1 j = M10.1 j) ∧ (∀ k, k ≠ 49 → M11.2 k = M10.2 k) ∧ M11.2 49 0 = 0 := by
    intro M11 e
    subst e
    exact ⟨mS1 (mPut M10 49 0 0) 48 _, fun j hj => mS2 (mPut M10 49 0 0) _ hj, fun k hk => mPut_ne _ _ _ hk, p2_1 M10 49 0 0⟩
  rw [cal_of n1]
  generalize mSet (mPut M10 49 0 0) 48 (((0 : Nat) : Int) + 1) = M11 at *
  obtain ⟨b48, b1, b2, b3⟩ := hM11 M11 rfl
  obtain ⟨o1, o2⟩ := X12_newRow_ (M := M11) (d := 1) b48 (by decide)
  have hM13 : ∀ M13, M13 = mSet (mPut M11 49 1 0) 48 (((1 : Nat) : Int) + 1) → M13.1 48 = ((2 : Nat) : Int) ∧ (∀ j, j ≠ 48 → M13.1 j = M11.1 j) ∧ (∀ k, k ≠ 49 → M13.2 k = M11.2 k) ∧ M13.2 49 0 = 0 ∧ M13.2 49 1 = 0 := by
    intro M13 e
    subst e
    exact ⟨mS1 (mPut M11 49 1 0) 48 _, fun j hj => mS2 (mPut M11 49 1 0) _ hj, fun k hk => mPut_ne _ _ _ hk, (p2_2 (k := 49) (k' := 49) (i := 1) (i' := 0) M11 0 (Or.inr (by decide))).trans b3, p2_1 M11 49 1 0⟩
  rw [cal_of o1]
  generalize mSet (mPut M11 49 1 0) 48 (((1 : Nat) : Int) + 1) = M13 at *
  obtain ⟨d48, d1, d2, d3, d4⟩ := hM13 M13 rfl
  obtain ⟨M15, e1, e2, e3, e4, e5, e6, e7, e8⟩ := X12_newFrame_ (M := M13) (g := 0) (by rw [d1 40 (by decide), b1 40 (by decide)]; exact a40) (by decide) (eSn E t) (t : Int) 0 (-1)
  have ex15 : ExO M M15 := ⟨fun j a => by rw [e2.1 j (by omega), d1 j (by omega), b1 j (by omega)]; exact a2 j (by omega), fun k a => by rw [e2.2.1 k (by omega), d2 k (by omega), b2 k (by omega), a1]⟩
  have hv := (hM M15 ex15).2.2.2 t ht hne
  have hvn : eSn E t = (((eSn E t).toNat : Nat) : Int) := by omega
  obtain ⟨M17, t1, t2, t3, t4⟩ := X12_task_ (M := M15) (d := 0) (by rw [e2.1 59 (by decide), d1 59 (by decide), b1 59 (by decide)]; exact a59) (by decide) 0 ((0 : Nat) : Int) ((0 : Nat) : Int) (eTl E (eSn E t).toNat : Int) ((0 : Nat) : Int)
  have ri : ∀ j, j ≠ 40 → j ≠ 48 → j ≠ 59 → M17.1 j = M10.1 j := fun j x y z => by rw [t4.1 j z, e2.1 j x, d1 j y, b1 j y]
  have rr : ∀ k, (k < 41 ∨ 64 < k) → M17.2 k = M.2 k := fun k a => by rw [t4.2.1 k (by omega), e2.2.1 k (by omega), d2 k (by omega), b2 k (by omega), a1]
  have r49 : ∀ i, M17.2 49 i = M13.2 49 i := fun i => by rw [t4.2.1 49 (by decide), e2.2.1 49 (by decide)]
  have ex17 : ExO M M17 := ⟨fun j a => by rw [ri j (by omega) (by omega) (by omega)]; exact a2 j (by omega), fun k a => rr k (by omega)⟩
  have f0 : aFr (uFr aS0 (topF E t)) 0 = topF E t := rfl
  have nul : ∀ d, d < 2 → RowM M17 d [] := fun d hd => ⟨by omega, by
    rw [r49]
    have hd2 : d = 0 ∨ d = 1 := by omega
    rcases hd2 with z | z
    · rw [z]; exact d3
    · rw [z]; exact d4, okr_nil, fun k hk => absurd hk (Nat.not_lt_zero _)⟩
  have k47 : ∀ x, x < 10 → M17.2 45 (10 * 0 + x) = -1 ∧ M17.2 47 (10 * 0 + x) = -1 := fun x hx => by
    rw [t4.2.1 45 (by decide), t4.2.1 47 (by decide)]
    exact e8 x hx
  have ms : MS M17 E (uFr aS0 (topF E t)) 2 0 := by
    refine ⟨hM.step ex17, ⟨?_, ?_, ?_⟩, ⟨⟨?_, show (0 : Nat) < 16777216 by decide⟩, ⟨?_, show (0 : Nat) < 256 by decide⟩, ⟨?_, show (0 : Nat) < 16777216 by decide⟩, ⟨?_, show (0 : Nat) < 256 by decide⟩, ⟨?_, show (0 : Nat) < 16 by decide⟩⟩, ⟨?_, Nat.le_refl _, Nat.le_add_right _ _, ?_, Nat.zero_le _⟩, nul 1 (by decide), fun f hf => ?_, fun f x hf hx => ?_⟩
    · rw [t4.1 40 (by decide), e3]; rfl
    · rw [ri 65 (by decide) (by decide) (by decide), a65]; rfl
    · rw [ri 71 (by decide) (by decide) (by decide), a2 71 (by decide)]; exact h71
    · rw [ri 66 (by decide) (by decide) (by decide), a66]; rfl
    · rw [ri 67 (by decide) (by decide) (by decide), a67]; rfl
    · rw [ri 68 (by decide) (by decide) (by decide), a68]; rfl
    · rw [ri 69 (by decide) (by decide) (by decide), a69]; rfl
    · rw [ri 70 (by decide) (by decide) (by decide), a70]; rfl
    · rw [t4.1 48 (by decide), e2.1 48 (by decide)]; exact d48
    · rw [ri 51 (by decide) (by decide) (by decide), a51]; rfl
    · have e : f = 0 := by have : f < 1 := hf; omega
      subst e
      refine ⟨⟨by decide, hv.2.1, ?_, c2.1.2, fun k hk => ⟨?_, ?_⟩⟩, ?_, ?_, ?_⟩
      · rw [t4.2.1 41 (by decide), e4]; exact hvn
      · exact ((hM M17 ex17).2.2.2 t ht hne).2.2.2 k hk
      · have := c3 k hk
        unfold okt at this
        exact ⟨this.1, this.2.1⟩
      · rw [t4.2.1 42 (by decide)]; exact e5
      · rw [t4.2.1 43 (by decide)]; exact e6
      · rw [t4.2.1 44 (by decide)]; exact e7
    · have e : f = 0 := by have : f < 1 := hf; omega
      subst e
      exact Or.inl ⟨rfl, k47 x hx⟩
  have cm : CuM M17 (uFr aS0 (topF E t)) 0 2 := ⟨by decide, by decide, fun f x hf hx z => by
    have e : f = 0 := by have : f < 1 := hf; omega
    subst e
    rw [(k47 x hx).2] at z
    exact absurd z (by decide)⟩
  have hB : Bl (fg E (uFr aS0 (topF E t)) 0) (fn E (uFr aS0 (topF E t)) 0) 0 (eTl E (eSn E t).toNat) := Bl.whole c2
  obtain ⟨n, M', rn', fu', w1, w2, w3, w4, w5, w6, w7, w8⟩ := (seg_m hE m _ _ _ _ _ _ _ _ _ _ hrun hP (Nat.lt_succ_self 0) hB (fun z => absurd z Bool.false_ne_true) M17 0 0 2 0 ms cm (nul 0 (by decide)) (Nat.le_refl 0)).1 rfl t3 t2
  have tl := Tc_le s'
  have hl := c2.1.2
  have hloop := w1.run w4 FU (by unfold FU; omega)
  rw [cal_of e1, hvn, if_pos (inM (n := 120) rfl hv.2.1 (by decide)), ix_n (by have := hv.2.1; omega), hv.2.2.1]
  rw [show ((0 : Nat) : Int) = 0 from rfl] at t1
  rw [show ((0 : Nat) : Int) = 0 from rfl, cal_of t1, bnd_eq]
  exact ⟨M', hloop, ex17.tr w5.1, w3, w2.2.2.1, w2.2.1.2.2⟩
end MEX
