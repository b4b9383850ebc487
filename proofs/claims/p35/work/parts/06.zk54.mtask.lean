/-! THE REFERENCE'S TASKS AND ROWS -/
section MTK
variable {M : Md}
theorem mS1 (M : Md) (k : Nat) (x : Int) : (mSet M k x).1 k = x := by
  show (if k = k then x else M.1 k) = x
  rw [if_pos rfl]
theorem mS2 (M : Md) {k k' : Nat} (x : Int) (h : k' ≠ k) : (mSet M k x).1 k' = M.1 k' := by
  show (if k' = k then x else M.1 k') = _
  rw [if_neg h]
/-- a task -/
def TkM (M : Md) (d : Nat) (o a b c e : Int) : Prop := M.2 60 d = o ∧ M.2 61 d = a ∧ M.2 62 d = b ∧ M.2 63 d = c ∧ M.2 64 d = e
/-- only the task at d is other, and their number -/
def TkO (d : Nat) (M M' : Md) : Prop := (∀ k, k ≠ 59 → M'.1 k = M.1 k) ∧ (∀ k, (k < 60 ∨ 64 < k) → M'.2 k = M.2 k) ∧ ∀ k i, i ≠ d → M'.2 k i = M.2 k i
theorem in_4000 {d k : Nat} (hd : d < 4000) (hk : mLen k = 4000) : inR (d : Int) (mLen k) := by rw [hk]; exact ⟨by rw [w32_n (by omega)]; omega, by rw [w32_n (by omega)]; omega⟩
theorem X12_task_ {d : Nat} (h59 : M.1 59 = (d : Int)) (hd : d < 4000) (o a b c e : Int) : ∃ M', fX12_task o a b c e M = some ((), M') ∧ M'.1 59 = (d : Int) + 1 ∧ TkM M' d o a b c e ∧ TkO d M M' := by
  refine ⟨mSet (mPut (mPut (mPut (mPut (mPut M 60 d o) 61 d a) 62 d b) 63 d c) 64 d e) 59 ((d : Int) + 1), ?_, ?_, ⟨?_, ?_, ?_, ?_, ?_⟩, fun k hk => ?_, fun k hk => ?_, fun k i hi => ?_⟩
  · unfold fX12_task
    have x : ∀ M' : Md, M'.1 = M.1 → M'.1 59 = (d : Int) := fun M' q => by rw [q]; exact h59
    rw [h59, if_pos (in_4000 hd rfl), bnd_eq, x (mPut M 60 _ o) rfl, if_pos (in_4000 hd rfl), bnd_eq, x (mPut (mPut M 60 _ o) 61 _ a) rfl, if_pos (in_4000 hd rfl), bnd_eq, x (mPut (mPut (mPut M 60 _ o) 61 _ a) 62 _ b) rfl, if_pos (in_4000 hd rfl), bnd_eq, x (mPut (mPut (mPut (mPut M 60 _ o) 61 _ a) 62 _ b) 63 _ c) rfl, if_pos (in_4000 hd rfl), bnd_eq, x (mPut (mPut (mPut (mPut (mPut M 60 _ o) 61 _ a) 62 _ b) 63 _ c) 64 _ e) rfl, bnd_eq, ix_n (by omega)]
  · exact mS1 _ _ _
  · show (mPut (mPut (mPut (mPut (mPut M 60 d o) 61 d a) 62 d b) 63 d c) 64 d e).2 60 d = o
    rw [p2_2 _ _ (Or.inl (by decide)), p2_2 _ _ (Or.inl (by decide)), p2_2 _ _ (Or.inl (by decide)), p2_2 _ _ (Or.inl (by decide)), p2_1]
  · show (mPut (mPut (mPut (mPut (mPut M 60 d o) 61 d a) 62 d b) 63 d c) 64 d e).2 61 d = a
    rw [p2_2 _ _ (Or.inl (by decide)), p2_2 _ _ (Or.inl (by decide)), p2_2 _ _ (Or.inl (by decide)), p2_1]
  · show (mPut (mPut (mPut (mPut (mPut M 60 d o) 61 d a) 62 d b) 63 d c) 64 d e).2 62 d = b
    rw [p2_2 _ _ (Or.inl (by decide)), p2_2 _ _ (Or.inl (by decide)), p2_1]
  · show (mPut (mPut (mPut (mPut (mPut M 60 d o) 61 d a) 62 d b) 63 d c) 64 d e).2 63 d = c
    rw [p2_2 _ _ (Or.inl (by decide)), p2_1]
  · show (mPut (mPut (mPut (mPut (mPut M 60 d o) 61 d a) 62 d b) 63 d c) 64 d e).2 64 d = e
    rw [p2_1]
  · exact mS2 _ _ hk
  · show (mPut (mPut (mPut (mPut (mPut M 60 d o) 61 d a) 62 d b) 63 d c) 64 d e).2 k = M.2 k
    rw [mPut_ne _ _ _ (by omega), mPut_ne _ _ _ (by omega), mPut_ne _ _ _ (by omega), mPut_ne _ _ _ (by omega), mPut_ne _ _ _ (by omega)]
  · show (mPut (mPut (mPut (mPut (mPut M 60 d o) 61 d a) 62 d b) 63 d c) 64 d e).2 k i = M.2 k i
    rw [p2_2 _ _ (Or.inr hi), p2_2 _ _ (Or.inr hi), p2_2 _ _ (Or.inr hi), p2_2 _ _ (Or.inr hi), p2_2 _ _ (Or.inr hi)]
/-- a new row -/
theorem X12_newRow_ {d : Nat} (h48 : M.1 48 = (d : Int)) (hd : d < 1700) : fX12_newRow M = some ((d : Int), mSet (mPut M 49 d 0) 48 ((d : Int) + 1)) ∧ RowM (mSet (mPut M 49 d 0) 48 ((d : Int) + 1)) d [] := by
  refine ⟨?_, hd, (show (mPut M 49 d 0).2 49 d = 0 from p2_1 _ _ _ _), okr_nil, fun k hk => absurd hk (Nat.not_lt_zero _)⟩
  unfold fX12_newRow
  rw [h48, if_pos ⟨by rw [w32_n (by omega)]; omega, by rw [w32_n (by omega), ml_49]; omega⟩, bnd_eq, show (mPut M 49 (ix (d : Int)) 0).1 48 = (d : Int) from h48, bnd_eq, ix_n (by omega), mS1, show (d : Int) + 1 - 1 = (d : Int) by omega]
end MTK
