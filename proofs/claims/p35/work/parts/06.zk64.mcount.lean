/-! THE REFERENCE COUNTS MEMBERS -/
section MCN
theorem nBits_half (n : Nat) : ∀ k, nBits n (k + 1) = (if n.testBit 0 = true then 1 else 0) + nBits (n / 2) k := by
  intro k
  induction k with
  | zero => show 0 + (if n.testBit 0 = true then 1 else 0) = (if n.testBit 0 = true then 1 else 0) + 0; omega
  | succ k ih =>
    show nBits n (k + 1) + (if n.testBit (k + 1) = true then 1 else 0) = _ + (nBits (n / 2) k + (if (n / 2).testBit k = true then 1 else 0))
    rw [ih, Nat.testBit_succ, Nat.add_assoc]
theorem nBits_0 : ∀ k, nBits 0 k = 0 := by
  intro k
  induction k with
  | zero => rfl
  | succ k ih => rw [nBits, ih, Nat.zero_testBit, if_neg Bool.false_ne_true]
theorem X12_countOf_ {M : Md} {S : Nat} (hS : S < 16777216) : fX12_countOf (S : Int) M = some ((nBits S 32 : Int), M) := by
  unfold fX12_countOf
  rw [bnd_eq]
  refine (lpn_rule (P := fun mm (L : Int → Int → Md → Option (Int × Md)) => ∀ (k n c : Nat), n < 16777216 → n < 2 ^ k → k < mm → L (c : Int) (n : Int) M = some (((c + nBits n k : Nat) : Int), M)) (fun k n c _ _ h => absurd h (Nat.not_lt_zero _)) (fun mm L hLL k n c hn hk hm => ?_) FU 32 S 0 hS (by omega) (by unfold FU; omega)).trans (by rw [Nat.zero_add])
  by_cases c0 : n = 0
  · subst c0
    rw [if_pos (by decide), nBits_0, Nat.add_zero]
  · obtain ⟨k', rfl⟩ : ∃ k', k = k' + 1 := ⟨k - 1, by
      cases k with
      | zero => rw [Nat.pow_zero] at hk; omega
      | succ k => omega⟩
    have hb := bitI_N (n := n) (k := 0) (by decide) (by omega)
    have h0 := shrI_N (n := n) (k := 0) (by decide) (by omega)
    have h1 := shrI_N (n := n) (k := 1) (by decide) (by omega)
    rw [Nat.pow_zero, Nat.div_one] at h0
    rw [show (((0 : Nat) : Int)) = 0 from rfl] at h0 hb
    rw [h0] at hb
    rw [Nat.pow_one] at h1
    rw [show (((1 : Nat) : Int)) = 1 from rfl] at h1
    have q := hLL k' (n / 2) (c + (if n.testBit 0 = true then 1 else 0)) (by omega) (by rw [Nat.pow_succ] at hk; omega) (by omega)
    rw [if_neg (by rw [w32_n (by omega)]; omega), hb, bnd_eq, h1, bnd_eq, nBits_half, ← Nat.add_assoc, ← q]
    by_cases c : n.testBit 0 = true
    · rw [if_pos c, if_pos c]; rfl
    · rw [if_neg c, if_neg c]; rfl
end MCN
