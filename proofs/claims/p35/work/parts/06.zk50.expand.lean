/-! THE CLASS EXPANDS A TITLE'S TEXT -/
section EXPD
variable {b : Nat} {C : Cd} {E : Env} {VA : Nat → Nat} {up : Int} {m : Nat}
/-- the evaluator's world at the start -/
def aS0 : ASt := (0, fun _ => (0, 0, 0, -1, 0, fun _ => -1), fun _ _ => 0, fun _ _ => [], 0, 0, 0, 0, 0, 0)
def topF (E : Env) (t : Nat) : AFr := ((eSn E t).toNat, t, 0, -1, 0, fun _ => -1)
def sCl (b q k a : Nat) : Prop := (q = 0 ∧ ((a = b + 1 ∧ 408 ≤ k ∧ k ≤ 411) ∨ (a = b + 10 ∧ 701 ≤ k ∧ k ≤ 707))) ∨ sRow (b + 11) q k a
theorem sCl.x {D : Nat → Prop} {q k a : Nat} (h : sCl b q k a) : sX b D q k a := by
  rcases h with ⟨h, h2 | h2⟩ | ⟨h1, h2, h3⟩ | ⟨h1, h2⟩
  · exact Or.inl ⟨h, Or.inl ⟨h2.1, by omega, by omega⟩⟩
  · exact Or.inl ⟨h, Or.inr (Or.inl h2)⟩
  · exact Or.inl ⟨h1, Or.inr (Or.inr (Or.inl ⟨h2, Or.inl h3⟩))⟩
  · exact Or.inr (Or.inr (Or.inl ⟨h1, Or.inr (Or.inr (Or.inl (by omega)))⟩))
theorem Lay.fro_ (h : Lay b C) : isO C (b + 11) 8 := h.2.2.1.2.2.2.2.2.2.2.2.2.2.1
/-- found is cleared -/
theorem X4_clear_ (hL : Lay b C) (hR : RwA C (b + 11)) : ∃ C', fX4_clear (b + 10) C = some ((), C') ∧ Fp (sCl b) C C' ∧ RowV C' (b + 11) [] ∧ csz C' = csz C ∧ csl C' = csl C ∧ cI C' 703 (b + 10) = 0 ∧ cI C' 704 (b + 10) = 0 ∧ cI C' 705 (b + 10) = 0 ∧ cI C' 706 (b + 10) = 0 ∧ cI C' 707 (b + 10) = 0 := by
  obtain ⟨C1, e1, r1, f1, s1, l1⟩ := X5_clear_' hL.W hR
  have f1' : Fp (sCl b) C C1 := f1.mono (fun _ _ _ _ z => Or.inr z)
  have hL1 : Lay b C1 := hL.keep (f1'.mono (fun _ _ _ _ z => (sCl.x (D := fun _ => False) z).mu))
  have od := hL1.od
  have hz : ∀ {k : Nat}, 701 ≤ k ∧ k ≤ 707 → sCl b 0 k (b + 10) := fun h => Or.inl ⟨rfl, Or.inr ⟨rfl, h⟩⟩
  have f2 : Fp (sCl b) C (cSetI (cSetI (cSetI (cSetI (cSetI (cSetI (cSetI C1 701 (b + 10) 0) 702 (b + 10) 0) 703 (b + 10) 0) 704 (b + 10) 0) 705 (b + 10) 0) 706 (b + 10) 0) 707 (b + 10) 0) :=
    ((((((f1'.sI (hz (by decide))).sI (hz (by decide))).sI (hz (by decide))).sI (hz (by decide))).sI (hz (by decide))).sI (hz (by decide))).sI (hz (by decide))
  refine ⟨_, ?_, f2, ?_, s1, l1, ?_, ?_, ?_, ?_, ?_⟩
  · unfold fX4_clear
    rw [if_pos hL.od, bnd_eq, drf_eq hL.x8, if_pos hL.fro_, cal_of e1]
    rw [if_pos od, bnd_eq, if_pos (show isO (cSetI C1 701 (b + 10) 0) (b + 10) 7 from od), bnd_eq, if_pos (show isO (cSetI (cSetI C1 701 (b + 10) 0) 702 (b + 10) 0) (b + 10) 7 from od), bnd_eq, if_pos (show isO (cSetI (cSetI (cSetI C1 701 (b + 10) 0) 702 (b + 10) 0) 703 (b + 10) 0) (b + 10) 7 from od), bnd_eq, if_pos (show isO (cSetI (cSetI (cSetI (cSetI C1 701 (b + 10) 0) 702 (b + 10) 0) 703 (b + 10) 0) 704 (b + 10) 0) (b + 10) 7 from od), bnd_eq, if_pos (show isO (cSetI (cSetI (cSetI (cSetI (cSetI C1 701 (b + 10) 0) 702 (b + 10) 0) 703 (b + 10) 0) 704 (b + 10) 0) 705 (b + 10) 0) (b + 10) 7 from od), bnd_eq, if_pos (show isO (cSetI (cSetI (cSetI (cSetI (cSetI (cSetI C1 701 (b + 10) 0) 702 (b + 10) 0) 703 (b + 10) 0) 704 (b + 10) 0) 705 (b + 10) 0) 706 (b + 10) 0) (b + 10) 7 from od), bnd_eq]
  · exact r1.fp hL1.W (S := fun q k a => q = 0 ∧ 701 ≤ k ∧ k ≤ 707) ((((((((Fp.rf hL1.W).sI (by decide)).sI (by decide)).sI (by decide)).sI (by decide)).sI (by decide)).sI (by decide)).sI (by decide)) (by omega) (by omega) (by omega) (by omega)
  all_goals
    first
    | exact cI_I1 _ _ _ _
    | exact (cI_I2 _ _ (Or.inl (by decide))).trans (cI_I1 _ _ _ _)
    | exact (cI_I2 _ _ (Or.inl (by decide))).trans ((cI_I2 _ _ (Or.inl (by decide))).trans (cI_I1 _ _ _ _))
    | exact (cI_I2 _ _ (Or.inl (by decide))).trans ((cI_I2 _ _ (Or.inl (by decide))).trans ((cI_I2 _ _ (Or.inl (by decide))).trans (cI_I1 _ _ _ _)))
    | exact (cI_I2 _ _ (Or.inl (by decide))).trans ((cI_I2 _ _ (Or.inl (by decide))).trans ((cI_I2 _ _ (Or.inl (by decide))).trans ((cI_I2 _ _ (Or.inl (by decide))).trans (cI_I1 _ _ _ _))))
end EXPD
