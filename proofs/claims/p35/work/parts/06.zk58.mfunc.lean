/-! THE REFERENCE COMES TO A FUNC -/
section MFN
variable {M : Md} {fr v : Nat} {gg : Nat → Int} {n k : Nat}
def FnO (k : Nat) (M M' : Md) : Prop := (∀ j, j ≠ 51 → M'.1 j = M.1 j) ∧ (∀ j, (j < 52 ∨ 58 < j) → M'.2 j = M.2 j) ∧ (∀ j i, j ≤ 55 → i ≠ k → M'.2 j i = M.2 j i) ∧ ∀ j i, 56 ≤ j → (i < 32 * k ∨ 32 * k + 32 ≤ i) → M'.2 j i = M.2 j i
theorem FnO.rf (k : Nat) (M : Md) : FnO k M M := ⟨fun _ _ => rfl, fun _ _ => rfl, fun _ _ _ _ => rfl, fun _ _ _ _ => rfl⟩
theorem FnO.tr {M1 M2 : Md} (h : FnO k M M1) (h1 : FnO k M1 M2) : FnO k M M2 :=
  ⟨fun j a => (h1.1 j a).trans (h.1 j a), fun j a => (h1.2.1 j a).trans (h.2.1 j a), fun j i a b => (h1.2.2.1 j i a b).trans (h.2.2.1 j i a b), fun j i a b => (h1.2.2.2 j i a b).trans (h.2.2.2 j i a b)⟩
theorem FnO.put1 {j : Nat} {x : Int} (h : 52 ≤ j ∧ j ≤ 55) : FnO k M (mPut M j k x) :=
  ⟨fun _ _ => rfl, fun j' a => mPut_ne _ _ _ (by omega), fun j' i a b => p2_2 _ _ (Or.inr b), fun j' i a b => p2_2 _ _ (Or.inl (by omega))⟩
theorem FnO.put2 {j y : Nat} {x : Int} (h : 56 ≤ j ∧ j ≤ 58) (hy : 32 * k ≤ y ∧ y < 32 * k + 32) : FnO k M (mPut M j y x) :=
  ⟨fun _ _ => rfl, fun j' a => mPut_ne _ _ _ (by omega), fun j' i a b => p2_2 _ _ (Or.inl (by omega)), fun j' i a b => p2_2 _ _ (Or.inr (by omega))⟩
theorem FrM.fn {M' : Md} (h : FrM M fr v gg n) (o : FnO k M M') : FrM M' fr v gg n := by
  obtain ⟨h1, h2, h3, h4, h5⟩ := h
  exact ⟨h1, h2, by rw [o.2.1 41 (by decide)]; exact h3, h4, fun j hj => by rw [o.2.1 9 (by decide)]; exact h5 j hj⟩
theorem in_700 {d j : Nat} (hd : d < 700) (hk : mLen j = 700) : inR (d : Int) (mLen j) := by rw [hk]; exact ⟨by rw [w32_n (by omega)]; omega, by rw [w32_n (by omega)]; omega⟩
theorem in_22400 {d j : Nat} (hd : d < 22400) (hk : mLen j = 22400) : inR (d : Int) (mLen j) := by rw [hk]; exact ⟨by rw [w32_n (by omega)]; omega, by rw [w32_n (by omega)]; omega⟩
/-- a function's parts, none begun -/
def FnV (M : Md) (k : Nat) (gg : Nat → Int) (n : Nat) (pl : List Nat) : Prop := M.2 55 k = (pl.length : Int) ∧ ∀ j, j < pl.length → M.2 56 (32 * k + j) = (pl.getD j 0 : Int) + 1 ∧ M.2 57 (32 * k + j) = (fE gg n (pl.getD j 0) : Int) ∧ M.2 58 (32 * k + j) = -1
theorem getDn_eq {l : List Nat} {x : Nat} : (l ++ [x]).getD l.length 0 = x := by
  rw [List.getD_eq_getElem?_getD, List.getElem?_append_right (Nat.le_refl _), Nat.sub_self]
  rfl
theorem getDn_lt {l : List Nat} {x j : Nat} (h : j < l.length) : (l ++ [x]).getD j 0 = l.getD j 0 := by
  rw [List.getD_eq_getElem?_getD, List.getElem?_append_left h, List.getD_eq_getElem?_getD]
theorem FnV.put {pl : List Nat} {p : Nat} (h : FnV M k gg n pl) (hl : pl.length < 32) : FnV (mPut (mPut (mPut (mPut M 56 (32 * k + pl.length) ((p : Int) + 1)) 57 (32 * k + pl.length) (fE gg n p : Int)) 58 (32 * k + pl.length) (-1)) 55 k ((pl.length : Int) + 1)) k gg n (pl ++ [p]) := by
  refine ⟨?_, fun j hj => ?_⟩
  · rw [p2_1, List.length_append]
    show _ = ((pl.length + 1 : Nat) : Int)
    omega
  · rw [p2_2 _ _ (Or.inl (by decide)), p2_2 _ _ (Or.inl (by decide)), p2_2 _ _ (Or.inl (by decide)), p2_2 (k' := 57) _ _ (Or.inl (by decide)), p2_2 (k' := 57) _ _ (Or.inl (by decide)), p2_2 (k' := 58) _ _ (Or.inl (by decide))]
    rw [List.length_append] at hj
    have hj' : j < pl.length + 1 := hj
    by_cases c : j = pl.length
    · subst c
      rw [p2_1, p2_1, p2_1, getDn_eq]
      exact ⟨rfl, rfl, rfl⟩
    · have q := h.2 j (by omega)
      rw [p2_2 _ _ (Or.inr (by omega)), p2_2 _ _ (Or.inr (by omega)), p2_2 (k' := 57) _ _ (Or.inl (by decide)), p2_2 _ _ (Or.inr (by omega)), p2_2 (k' := 58) _ _ (Or.inl (by decide)), p2_2 (k' := 58) _ _ (Or.inl (by decide)), getDn_lt (by omega)]
      exact q
end MFN
