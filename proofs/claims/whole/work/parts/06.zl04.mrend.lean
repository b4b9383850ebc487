/-! THE REFERENCE RENDERS -/
section MRE
variable {M M' : Md} {t : Nat}
/-- categories noted -/
def CtN (M M' : Md) (ct cu n : Nat) : Prop := (∀ j, j ≠ 22 → M'.1 j = M.1 j) ∧ M.1 22 ≤ M'.1 22 ∧ M'.1 22 ≤ M.1 22 + (n : Int) ∧ ∀ c, c < 8 → if c < n ∧ ct.testBit c ≠ cu.testBit c then M.1 22 < M'.2 24 c ∧ M'.2 24 c ≤ M'.1 22 else M'.2 24 c = M.2 24 c
theorem X12_setCategories_ (ht : t < 24) {ct cu : Nat} (h1 : ct < 256) (h2 : cu < 256) (h32 : M.2 32 t = (ct : Int)) :
   ∃ M', fX12_setCategories (t : Int) (cu : Int) M = some ((), M') ∧ CtN M M' ct cu 8 ∧ (∀ k, k ≠ 24 → k ≠ 32 → M'.2 k = M.2 k) ∧ M'.2 32 t = (cu : Int) ∧ ∀ s, s ≠ t → M'.2 32 s = M.2 32 s := by
  unfold fX12_setCategories
  rw [bnd_eq]
  refine lpn_rule (P := fun mm (L : Int → Md → Option (Unit × Md)) => ∀ (i : Nat) (M2 : Md), i ≤ 8 → 8 - i < mm → CtN M M2 ct cu i → (∀ k, k ≠ 24 → M2.2 k = M.2 k) → ∃ M', L (i : Int) M2 = some ((), M') ∧ CtN M M' ct cu 8 ∧ (∀ k, k ≠ 24 → k ≠ 32 → M'.2 k = M.2 k) ∧ M'.2 32 t = (cu : Int) ∧ ∀ s, s ≠ t → M'.2 32 s = M.2 32 s) (fun i _ _ h => absurd h (Nat.not_lt_zero _)) (fun mm L hLL i M2 hi hm hc hk => ?_) FU 0 M (by decide) (by unfold FU; omega) ⟨fun _ _ => rfl, Int.le_refl _, by omega, fun c _ => by rw [if_neg (fun z => absurd z.1 (Nat.not_lt_zero c))]⟩ (fun _ _ => rfl)
  obtain ⟨c1, c2, c3, c4⟩ := hc
  rcases Nat.lt_or_ge i 8 with hlt | hge
  · have e32 : M2.2 32 t = (ct : Int) := by rw [hk 32 (by decide)]; exact h32
    rw [if_neg (by rw [show w32 8 = 8 from rfl, w32_n (by omega)]; omega), if_pos (inM (n := 24) rfl ht (by decide)), bnd_eq, ix_n (by omega), e32, bitI_N (by omega) (by omega), bitI_N (by omega) (by omega), i01, i01]
    by_cases c : ct.testBit i = cu.testBit i
    · rw [if_pos (by rw [c])]
      refine hLL (i + 1) M2 (by omega) (by omega) ⟨c1, c2, by omega, fun x hx => ?_⟩ hk
      have y := c4 x hx
      by_cases z : x < i ∧ ct.testBit x ≠ cu.testBit x
      · rw [if_pos z] at y
        rw [if_pos ⟨by omega, z.2⟩]
        exact y
      · rw [if_neg z] at y
        rw [if_neg (fun u => z ⟨by
          rcases Nat.lt_or_ge x i with v | v
          · exact v
          · exact absurd (by have e : x = i := by omega
                             rw [e]; exact c) u.2, u.2⟩)]
        exact y
    · have cc : ¬ ((if ct.testBit i = true then 1 else 0 : Int) = (if cu.testBit i = true then 1 else 0 : Int)) := by
        cases h3 : ct.testBit i <;> cases h4 : cu.testBit i <;> rw [h3, h4] at c
        · exact absurd rfl c
        · decide
        · decide
        · exact absurd rfl c
      rw [if_neg cc, bnd_eq, if_pos (inM (n := 8) rfl hlt (by decide)), bnd_eq, ix_n (by omega), mS1]
      have q24 : ∀ x, (mPut (mSet M2 22 (M2.1 22 + 1)) 24 i (M2.1 22 + 1)).2 24 x = if x = i then M2.1 22 + 1 else M2.2 24 x := fun x => by
        by_cases e : x = i
        · rw [if_pos e, e]; exact p2_1 _ _ _ _
        · rw [if_neg e]; exact p2_2 (k := 24) (k' := 24) (mSet M2 22 (M2.1 22 + 1)) _ (Or.inr e)
      refine hLL (i + 1) _ (by omega) (by omega) ⟨fun j hj => (mS2 M2 _ hj).trans (c1 j hj), ?_, ?_, fun x hx => ?_⟩ (fun k hk' => (mPut_ne (mSet M2 22 (M2.1 22 + 1)) _ _ hk').trans (hk k hk'))
      · show M.1 22 ≤ (mSet M2 22 (M2.1 22 + 1)).1 22
        rw [mS1]; omega
      · show (mSet M2 22 (M2.1 22 + 1)).1 22 ≤ _
        rw [mS1]; omega
      · have y := c4 x hx
        rw [q24, show (mPut (mSet M2 22 (M2.1 22 + 1)) 24 i (M2.1 22 + 1)).1 22 = M2.1 22 + 1 from mS1 M2 22 _]
        by_cases e : x = i
        · subst e
          rw [if_pos ⟨by omega, c⟩, if_pos rfl]
          exact ⟨by omega, Int.le_refl _⟩
        · rw [if_neg e]
          by_cases z : x < i ∧ ct.testBit x ≠ cu.testBit x
          · rw [if_pos z] at y
            rw [if_pos ⟨by omega, z.2⟩]
            exact ⟨y.1, by omega⟩
          · rw [if_neg z] at y
            rw [if_neg (fun u => z ⟨by omega, u.2⟩)]
            exact y
  · have e : i = 8 := by omega
    subst e
    rw [if_pos (by decide), if_pos (inM (n := 24) rfl ht (by decide)), bnd_eq, ix_n (by omega)]
    refine ⟨_, rfl, ⟨c1, c2, c3, fun x hx => ?_⟩, fun k k1 k2 => (mPut_ne M2 _ _ k2).trans (hk k k1), p2_1 _ _ _ _, fun s hs => (p2_2 (k := 32) (k' := 32) M2 _ (Or.inr hs)).trans (by rw [hk 32 (by decide)])⟩
    have e24 : (mPut M2 32 t (cu : Int)).2 24 x = M2.2 24 x := by rw [mPut_ne M2 _ _ (by decide)]
    rw [e24]
    exact c4 x hx
end MRE
