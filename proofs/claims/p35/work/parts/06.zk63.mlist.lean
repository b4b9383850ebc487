/-! THE REFERENCE LISTS MEMBERS -/
section MLI
theorem mod_bit (S i : Nat) : S % 2 ^ (i + 1) = (S % 2 ^ i) ||| (if S.testBit i = true then 2 ^ i else 0) := by
  apply Nat.eq_of_testBit_eq
  intro j
  rw [Nat.testBit_mod_two_pow, Nat.testBit_or, Nat.testBit_mod_two_pow]
  by_cases e : i = j
  · subst e
    rw [decide_eq_true (Nat.lt_succ_self i), decide_eq_false (Nat.lt_irrefl i), Bool.true_and, Bool.false_and, Bool.false_or]
    by_cases c : S.testBit i = true
    · rw [if_pos c, Nat.testBit_two_pow_self, c]
    · rw [if_neg c, Nat.zero_testBit, eq_false_of_ne_true c]
  · have z : (if S.testBit i = true then 2 ^ i else 0).testBit j = false := by
      by_cases c : S.testBit i = true
      · rw [if_pos c, Nat.testBit_two_pow_of_ne e]
      · rw [if_neg c, Nat.zero_testBit]
    rw [z, Bool.or_false]
    by_cases l : j < i
    · rw [decide_eq_true (show j < i + 1 by omega), decide_eq_true l]
    · rw [decide_eq_false (show ¬ j < i + 1 by omega), decide_eq_false l]
/-- only this row and the links are other -/
def RoS (d : Nat) (M M' : Md) : Prop := (∀ j, j ≠ 66 → M'.1 j = M.1 j) ∧ (∀ k, k ≠ 49 → k ≠ 50 → M'.2 k = M.2 k) ∧ (∀ i, i ≠ d → M'.2 49 i = M.2 49 i) ∧ (∀ i, (i < 150 * d ∨ 150 * d + 150 ≤ i) → M'.2 50 i = M.2 50 i)
theorem X12_listMembers_ {M : Md} {d S lk : Nat} {r : List Int} (h : RowM M d r) (hS : S < 16777216) (h66 : M.1 66 = (lk : Int)) (hlk : lk < 16777216) :
   ∃ M', fX12_listMembers (d : Int) (S : Int) M = some ((), M') ∧ RowM M' d (lsA S 24 0 r) ∧ M'.1 66 = ((lk ||| S : Nat) : Int) ∧ RoS d M M' := by
  unfold fX12_listMembers
  rw [bnd_eq]
  refine Exists.elim (lpn_rule (P := fun mm (L : Int → Md → Option (Unit × Md)) => ∀ (i m lk : Nat) (r : List Int) (M1 : Md), i + m = 24 → m < mm → RowM M1 d r → M1.1 66 = (lk : Int) → lk < 16777216 → RoS d M M1 → ∃ M', L (i : Int) M1 = some ((), M') ∧ RowM M' d (lsA S m i r) ∧ (∀ l0, lk = (l0 ||| (S % 2 ^ i)) → M'.1 66 = ((l0 ||| (S % 2 ^ 24) : Nat) : Int)) ∧ RoS d M M') (fun i m lk r M1 _ h => absurd h (Nat.not_lt_zero _)) (fun mm L hLL i m lk r M1 him hm hr h66 hlk o1 => ?_) FU 0 24 lk r M rfl (by unfold FU; omega) h h66 hlk ⟨fun _ _ => rfl, fun _ _ _ => rfl, fun _ _ => rfl, fun _ _ => rfl⟩) (fun M' q => ⟨M', q.1, q.2.1, by have z := q.2.2.1 lk (by rw [Nat.pow_zero, Nat.mod_one, Nat.or_zero]); rw [Nat.mod_eq_of_lt (show S < 2 ^ 24 by omega)] at z; exact z, q.2.2.2⟩)
  cases m with
  | zero =>
    have e : i = 24 := by omega
    subst e
    rw [if_pos (by decide)]
    exact ⟨M1, rfl, hr, fun l0 q => by rw [h66, q], o1⟩
  | succ m =>
    have hb := bitI_N (n := S) (k := i) (by omega) (by omega)
    rw [if_neg (by rw [show w32 24 = 24 from rfl, w32_n (by omega)]; omega), bnd_eq, hb]
    by_cases c : S.testBit i = true
    · obtain ⟨M2, e2, r2, o2⟩ := X12_append_ (x := 1000 + (i : Int)) hr (by omega) (by omega)
      have hset := orI_set hlk (show i < 24 by omega)
      have q := hLL (i + 1) m (lk ||| 2 ^ i) (apl r (1000 + (i : Int))) (mSet M2 66 ((lk ||| 2 ^ i : Nat) : Int)) (by omega) (by omega) r2 (mS1 _ _ _) (or_24 hlk (by omega)) ⟨fun j hj => (mS2 _ _ hj).trans ((congrFun o2.1 j).trans (o1.1 j hj)), fun k a b => (o2.2.1 k a b).trans (o1.2.1 k a b), fun y a => (o2.2.2.1 y a).trans (o1.2.2.1 y a), fun y a => (o2.2.2.2 y a).trans (o1.2.2.2 y a)⟩
      obtain ⟨M', q1, q2, q3, q4⟩ := q
      rw [show ((i + 1 : Nat) : Int) = (i : Int) + 1 by omega] at q1
      refine ⟨M', ?_, ?_, fun l0 z => q3 l0 ?_, q4⟩
      · rw [if_pos c, if_neg (fun z => z rfl), cal_of e2, show M2.1 66 = (lk : Int) by rw [o2.1]; exact h66, hset, bnd_eq]
        exact q1
      · rw [lsA, if_pos c]; exact q2
      · rw [z, Nat.or_assoc, mod_bit, if_pos c]
    · have q := hLL (i + 1) m lk r M1 (by omega) (by omega) hr h66 hlk o1
      obtain ⟨M', q1, q2, q3, q4⟩ := q
      rw [show ((i + 1 : Nat) : Int) = (i : Int) + 1 by omega] at q1
      refine ⟨M', ?_, ?_, fun l0 z => q3 l0 ?_, q4⟩
      · rw [if_neg c, if_pos (by decide)]
        exact q1
      · rw [lsA, if_neg c]; exact q2
      · rw [z, mod_bit, if_neg c, Nat.or_zero]
end MLI
