/-! AN UNDOING THAT IS REFUSED: no version of the title's, or the first one -/
section UNO
variable {b kc N np t : Nat} {E : Rw} {G : Md} {C : Cd} {T : Nat → List Nat}
theorem R_undoNo {y : Int} (h : RR b kc G C) (hkc : kc ≤ 600) (hL : LW N np T E G) (ht : t < 8) (hy : 0 ≤ y ∧ y < 1000) (hn : fX12_isVersionAt (t : Int) y G = some (0, G) ∨ ∃ v : Nat, y = (v : Int) ∧ v < N ∧ fX12_isVersionAt (t : Int) y G = some (1, G) ∧ rk G v N = 0) : ∃ C' G', fX11_undo b (t : Int) y C = some (.inr 2, C') ∧ RR b (kc + 1) G' C' ∧ RmL b C C' ∧ LW N np T E G' := by
  have hY : fX12_undo (t : Int) y G = some (0, mSet G 36 1) := by
    rcases hn with e | ⟨v, rfl, hv, e, hr⟩
    · rw [undo_def e, if_pos (by decide), unA_no]
    · rw [undo_def e, if_neg (by decide), cal_of (X12_aheadOf_ hL.vi hv), hr, if_pos (by decide), unA_no]
  obtain ⟨C', e, e1, e2, e3, e4, e5⟩ := deed_no (call_undo h hkc (x := (t : Int)) (y := y) ⟨by omega, by omega⟩ ⟨by omega, by omega⟩) hY (by rw [mS1]; decide)
  rw [mS1] at e2
  rw [cd2_2 e3 e2.symm] at e1
  exact ⟨C', _, e1, e4, e5, hL.sc (SmG.s36 G 1)⟩
end UNO
