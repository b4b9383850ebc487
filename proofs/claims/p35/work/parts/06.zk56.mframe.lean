/-! THE REFERENCE'S FRAMES -/
section MFR
variable {M : Md}
/-- only the frame g is other -/
def NfO (g : Nat) (M M' : Md) : Prop := (∀ k, k ≠ 40 → M'.1 k = M.1 k) ∧ (∀ k, (k < 41 ∨ 47 < k) → M'.2 k = M.2 k) ∧ (∀ k i, k ≤ 44 → i ≠ g → M'.2 k i = M.2 k i) ∧ ∀ k i, (i < 10 * g ∨ 10 * g + 10 ≤ i) → 45 ≤ k → M'.2 k i = M.2 k i
theorem NfO.rf (g : Nat) (M : Md) : NfO g M M := ⟨fun _ _ => rfl, fun _ _ => rfl, fun _ _ _ _ => rfl, fun _ _ _ _ => rfl⟩
theorem NfO.tr {g : Nat} {M M1 M2 : Md} (h : NfO g M M1) (h1 : NfO g M1 M2) : NfO g M M2 :=
  ⟨fun k a => (h1.1 k a).trans (h.1 k a), fun k a => (h1.2.1 k a).trans (h.2.1 k a), fun k i a b => (h1.2.2.1 k i a b).trans (h.2.2.1 k i a b), fun k i a b => (h1.2.2.2 k i a b).trans (h.2.2.2 k i a b)⟩
theorem NfO.put1 {g k : Nat} {x : Int} (h : 41 ≤ k ∧ k ≤ 44) : NfO g M (mPut M k g x) := by
  refine ⟨fun _ _ => rfl, fun k' a => mPut_ne _ _ _ (by omega), fun k' i a b => p2_2 _ _ (Or.inr b), fun k' i a b => p2_2 _ _ (Or.inl (by omega))⟩
theorem NfO.put2 {g k j : Nat} {x : Int} (h : 45 ≤ k ∧ k ≤ 47) (hj : 10 * g ≤ j ∧ j < 10 * g + 10) : NfO g M (mPut M k j x) := by
  refine ⟨fun _ _ => rfl, fun k' a => mPut_ne _ _ _ (by omega), fun k' i a b => p2_2 _ _ (Or.inl (by omega)), fun k' i a b => p2_2 _ _ (Or.inr (by omega))⟩
theorem in_41 {g k : Nat} (hg : g < 41) (hk : mLen k = 41) : inR (g : Int) (mLen k) := by rw [hk]; exact ⟨by rw [w32_n (by omega)]; omega, by rw [w32_n (by omega)]; omega⟩
theorem in_410 {g k : Nat} (hg : g < 410) (hk : mLen k = 410) : inR (g : Int) (mLen k) := by rw [hk]; exact ⟨by rw [w32_n (by omega)]; omega, by rw [w32_n (by omega)]; omega⟩
theorem X12_newFrame_ {g : Nat} (h40 : M.1 40 = (g : Int)) (hg : g < 41) (v t d c : Int) :
   ∃ M', fX12_newFrame v t d c M = some ((g : Int), M') ∧ NfO g M M' ∧ M'.1 40 = (g : Int) + 1 ∧ M'.2 41 g = v ∧ M'.2 42 g = t ∧ M'.2 43 g = d ∧ M'.2 44 g = c ∧ ∀ x, x < 10 → M'.2 45 (10 * g + x) = -1 ∧ M'.2 47 (10 * g + x) = -1 := by
  have o4 : NfO g M (mPut (mPut (mPut (mPut M 41 g v) 42 g t) 43 g d) 44 g c) := (((NfO.put1 (by decide)).tr (NfO.put1 (by decide))).tr (NfO.put1 (by decide))).tr (NfO.put1 (by decide))
  unfold fX12_newFrame
  rw [h40, bnd_eq, if_pos (in_41 hg rfl), bnd_eq, if_pos (in_41 hg rfl), bnd_eq, if_pos (in_41 hg rfl), bnd_eq, if_pos (in_41 hg rfl), bnd_eq, bnd_eq, ix_n (by omega)]
  have a1 : (mPut (mPut (mPut (mPut M 41 g v) 42 g t) 43 g d) 44 g c).2 41 g = v := by rw [p2_2 _ _ (Or.inl (by decide)), p2_2 _ _ (Or.inl (by decide)), p2_2 _ _ (Or.inl (by decide)), p2_1]
  have a2 : (mPut (mPut (mPut (mPut M 41 g v) 42 g t) 43 g d) 44 g c).2 42 g = t := by rw [p2_2 _ _ (Or.inl (by decide)), p2_2 _ _ (Or.inl (by decide)), p2_1]
  have a3 : (mPut (mPut (mPut (mPut M 41 g v) 42 g t) 43 g d) 44 g c).2 43 g = d := by rw [p2_2 _ _ (Or.inl (by decide)), p2_1]
  have a4 : (mPut (mPut (mPut (mPut M 41 g v) 42 g t) 43 g d) 44 g c).2 44 g = c := p2_1 _ _ _ _
  have a0 : (mPut (mPut (mPut (mPut M 41 g v) 42 g t) 43 g d) 44 g c).1 40 = (g : Int) := h40
  generalize mPut (mPut (mPut (mPut M 41 g v) 42 g t) 43 g d) 44 g c = M4 at *
  refine lpn_rule (P := fun mm (L : Int → Md → Option (Int × Md)) => ∀ (j : Nat) (M1 : Md), j ≤ 10 → 10 - j < mm → NfO g M M1 → M1.1 40 = (g : Int) → M1.2 41 g = v → M1.2 42 g = t → M1.2 43 g = d → M1.2 44 g = c → (∀ x, x < j → M1.2 45 (10 * g + x) = -1 ∧ M1.2 47 (10 * g + x) = -1) →
    ∃ M', L (j : Int) M1 = some ((g : Int), M') ∧ NfO g M M' ∧ M'.1 40 = (g : Int) + 1 ∧ M'.2 41 g = v ∧ M'.2 42 g = t ∧ M'.2 43 g = d ∧ M'.2 44 g = c ∧ ∀ x, x < 10 → M'.2 45 (10 * g + x) = -1 ∧ M'.2 47 (10 * g + x) = -1) (fun j _ _ h => absurd h (Nat.not_lt_zero _)) (fun mm L hLL j M1 hj hm o1 b0 b1 b2 b3 b4 b5 => ?_) FU 0 M4 (by decide) (by unfold FU; omega) o4 a0 a1 a2 a3 a4 (fun x hx => absurd hx (Nat.not_lt_zero _))
  · rcases Nat.lt_or_ge j 10 with hlt | hge
    · have e : (10 * (g : Int)) + (j : Int) = ((10 * g + j : Nat) : Int) := by omega
      have o2 : NfO g M (mPut (mPut M1 45 (10 * g + j) (-1)) 47 (10 * g + j) (-1)) := (o1.tr (NfO.put2 (by decide) (by omega))).tr (NfO.put2 (by decide) (by omega))
      have ne4 : ∀ k, k ≤ 44 → (mPut (mPut M1 45 (10 * g + j) (-1)) 47 (10 * g + j) (-1)).2 k g = M1.2 k g := fun k hk => by rw [p2_2 _ _ (Or.inl (by omega)), p2_2 _ _ (Or.inl (by omega))]
      rw [if_neg (by rw [show w32 10 = 10 from rfl, w32_n (by omega)]; omega), e, if_pos (in_410 (by omega) rfl), bnd_eq, if_pos (in_410 (by omega) rfl), bnd_eq, ix_n (by omega)]
      exact hLL (j + 1) _ hlt (by omega) o2 b0 ((ne4 41 (by decide)).trans b1) ((ne4 42 (by decide)).trans b2) ((ne4 43 (by decide)).trans b3) ((ne4 44 (by decide)).trans b4) (fun x hx => by
        by_cases c : x = j
        · subst c
          exact ⟨by rw [p2_2 _ _ (Or.inl (by decide)), p2_1], p2_1 _ _ _ _⟩
        · have q := b5 x (by omega)
          exact ⟨by rw [p2_2 _ _ (Or.inl (by decide)), p2_2 _ _ (Or.inr (by omega))]; exact q.1, by rw [p2_2 _ _ (Or.inr (by omega)), p2_2 _ _ (Or.inl (by decide))]; exact q.2⟩)
    · have e : j = 10 := by omega
      subst e
      rw [if_pos (by decide), bnd_eq, b0]
      exact ⟨_, rfl, ⟨fun k hk => (mS2 _ _ hk).trans (o1.1 k hk), o1.2.1, o1.2.2.1, o1.2.2.2⟩, mS1 _ _ _, b1, b2, b3, b4, b5⟩
end MFR
