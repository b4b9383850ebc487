/-! THE REFERENCE'S MODULE TAKES TWO -/
section MTW
/-- only the stack is other -/
def StO (M M' : Md) : Prop := (∀ j, j ≠ 73 → M'.1 j = M.1 j) ∧ ∀ k, k ≠ 72 → M'.2 k = M.2 k
theorem in_9 {d : Nat} (hd : d < 9) : inR (d : Int) (mLen 72) := ⟨by rw [w32_n (by omega)]; omega, by rw [w32_n (by omega), show mLen 72 = 9 from rfl]; omega⟩
theorem X12_takesTwo_few {M : Md} {k : Int} {n : Nat} (h : M.1 73 = (n : Int)) (hn : n < 2) : fX12_takesTwo k M = some (0, M) := by
  unfold fX12_takesTwo
  rw [h, if_neg (by rw [show w32 2 = 2 from rfl, w32_n (by omega)]; omega)]
theorem X12_takesTwo_ {M : Md} {k x y : Int} {n : Nat} (hk : k = 2 ∨ k = 3 ∨ k = 4 ∨ k = 5) (h : M.1 73 = ((n + 2 : Nat) : Int)) (hn : n + 2 ≤ 8) (hy : M.2 72 (n + 1) = y) (hx : M.2 72 n = x) (ry : 0 ≤ y ∧ y < 1000) (rx : 0 ≤ x ∧ x < 1000) :
   fX12_takesTwo k M = some (1, mPut (mSet M 73 ((n + 1 : Nat) : Int)) 72 n (op2 k x y)) := by
  have e1 : ((n + 2 : Nat) : Int) - 1 = ((n + 1 : Nat) : Int) := by omega
  have e2 : ((n + 2 : Nat) : Int) - 2 = ((n : Nat) : Int) := by omega
  have e3 : ((n + 1 : Nat) : Int) - 1 = ((n : Nat) : Int) := by omega
  have xy : x * y < 2147483648 ∧ 0 ≤ x * y := ⟨Int.lt_of_le_of_lt (Int.mul_le_mul (show x ≤ 1000 by omega) (show y ≤ 1000 by omega) ry.1 (by decide)) (by decide), Int.mul_nonneg rx.1 ry.1⟩
  unfold fX12_takesTwo
  rw [h, if_pos (by rw [show w32 2 = 2 from rfl, w32_n (by omega)]; omega), e1, if_pos (in_9 (by omega)), ix_n (by omega), hy, bnd_eq, e2, if_pos (in_9 (by omega)), ix_n (by omega), hx, bnd_eq, bnd_eq, bnd_eq, mS1, e3]
  unfold op2
  rcases hk with e | e | e | e <;> subst e
  · rw [if_neg (by decide), if_pos rfl]
    dsimp only
    rw [if_pos (in_9 (by omega)), bnd_eq, ix_n (by omega), remI_of (by omega) (by omega) (by decide) (by decide)]
  · rw [if_pos (by decide), if_neg (by decide), if_neg (by decide), if_pos rfl]
    dsimp only
    rw [if_pos (in_9 (by omega)), bnd_eq, ix_n (by omega), remI_of (by omega) (by omega) (by decide) (by decide)]
  · rw [if_pos (by decide), if_pos (by decide), if_neg (by decide), if_neg (by decide), if_neg (by decide), if_pos rfl]
    dsimp only
    rw [if_pos (in_9 (by omega)), bnd_eq, ix_n (by omega), remI_of (by omega) (by omega) (by decide) (by decide)]
  · rw [if_pos (by decide), if_pos (by decide), if_pos (by decide), if_neg (show ¬ (5 : Int) = 2 by decide), if_neg (show ¬ (5 : Int) = 3 by decide), if_neg (show ¬ (5 : Int) = 4 by decide), w32_of (x := y) (by omega) (by omega), w32_of (x := x) (by omega) (by omega)]
    by_cases c : x < y
    · rw [if_neg (by omega), if_pos c]
      dsimp only
      rw [if_pos (in_9 (by omega)), bnd_eq, ix_n (by omega)]
    · rw [if_pos (by omega), if_neg c]
      dsimp only
      rw [if_pos (in_9 (by omega)), bnd_eq, ix_n (by omega)]
end MTW
