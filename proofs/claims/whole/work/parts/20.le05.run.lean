/-! THE LAW'S RUN, whole -/
section RUN
variable {l : Launch} {b0 : Nat} {bG : va_G} {cy : Nat → ClassId} {g : State → Heap → Prop} {sb b Ls : Nat} {xs : Nat → Int32} {T : List ExceptionTableEntry} {sT : Nat → Nat}
theorem cnt_max (f : Nat → Bool) : ∀ n, cnt f n ≤ n := by
  intro n
  induction n with
  | zero => exact Nat.le_refl _
  | succ n ih =>
    unfold cnt
    split <;> omega
theorem law_run (hG : GK (b0, bG, cy, fS cy (b + 854), g) l) (hXN : XN (b0, bG, cy, fS cy (b + 854), g)) (hS : STs (b0, bG, cy, fS cy (b + 854), g) sT) (hxs : XScr (b0, bG, cy, fS cy (b + 854), g) sb Ls xs) (hLs : Ls ≤ 2048) (hb : b0 ≤ b + 854) :
    ∃ σ' : St, RunO l (b0, bG, cy, fS cy (b + 854), g) (kL T) 16 encI emL 0 [(0, .ref sb)] [] (M00, C00 b) (some (1, σ')) ∧ csz σ'.2 ≤ b + 601024 ∧ csl σ'.2 ≤ 7293033 := by
  obtain ⟨C2, h1, h2, hR, ho, K⟩ := law_begin (l := l) (bG := bG) (cy := cy) (g := g) (sb := sb) (b := b) (T := T) hG hb
  obtain ⟨σ', hX, c1, c2⟩ := law_loop (T := T) hG hXN hS hxs hLs (by omega : b + 854 ≤ b + 911) (Ls / 4) 0 _ _ (by omega) (by omega) hR ho
  have n1 : nRow b σ'.2 ≤ 1230 := cnt_max _ _
  exact ⟨σ', K _ hX, by omega, by omega⟩
end RUN
