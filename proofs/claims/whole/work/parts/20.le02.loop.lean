/-! THE LAW'S LOOP -/
section LOOP
variable {l : Launch} {b0 : Nat} {bG : va_G} {cy : Nat → ClassId} {g : State → Heap → Prop} {sb b mo out Ls : Nat} {xs : Nat → Int32} {T : List ExceptionTableEntry} {sT : Nat → Nat}
theorem law_loop (hG : GK (b0, bG, cy, fS cy mo, g) l) (hXN : XN (b0, bG, cy, fS cy mo, g)) (hS : STs (b0, bG, cy, fS cy mo, g) sT) (hxs : XScr (b0, bG, cy, fS cy mo, g) sb Ls xs) (hLs : Ls ≤ 2048) (hbo : b + 854 ≤ out) :
    ∀ (n j : Nat) (M : Md) (C : Cd), 4 * (j + n) ≤ Ls → Ls < 4 * (j + n) + 4 → RR b j M C → (isO C out 108 ∧ cn C out = 1) →
      ∃ σ' : St, RunO l (b0, bG, cy, fS cy mo, g) (kL T) 16 encI emL 23 (loM sb b mo out (4 * j : Nat)) [] (mk1 M, C) (some (1, σ')) ∧ csz σ'.2 + 2 * nRow b C ≤ csz C + 2 * nRow b σ'.2 + 500 * n ∧ csl σ'.2 + 153 * nRow b C ≤ csl C + 153 * nRow b σ'.2 + 10000 * n := by
  intro n
  induction n with
  | zero =>
    intro j M C h1 h2 hR ho
    refine ⟨(mk1 M, C), ?_, by show csz C + 2 * nRow b C ≤ csz C + 2 * nRow b C + 500 * 0; omega, by show csl C + 153 * nRow b C ≤ csl C + 153 * nRow b C + 10000 * 0; omega⟩
    refine r_iload (x := (4 * j : Nat)) dL_law_23 rfl ?_
    refine r_aload_n (x := sb) dL_law_25 rfl rfl ?_
    refine r_xlen hxs dL_law_26 ?_
    refine ro_iconst (v := 4) dL_law_27 rfl ?_
    refine r_isub dL_law_28 ?_
    refine ro_t (c := w32 ((Ls : Int) - 4) < w32 ((4 * j : Nat) : Int)) (by rw [w32_of (by omega) (by omega), w32_of (by omega) (by omega)]; omega) ?_
    refine r_icmp_gt (tgt := 2128) dL_law_29 (by decide) ?_ ro_none
    refine ro_iconst (v := 1) dL_law_2128 rfl ?_
    exact r_zret0 (Or.inr rfl) rfl dL_law_2129
  | succ n ih =>
    intro j M C h1 h2 hR ho
    obtain ⟨M', C', hR', hm, ho', K⟩ := law_round (T := T) hG hXN hS hxs (j := j) (by omega) hLs hR (by omega) ho hbo
    obtain ⟨σ', hX, c1, c2⟩ := ih (j + 1) M' C' (by omega) (by omega) hR' ho'
    obtain ⟨m1, m2, _, _⟩ := hm
    exact ⟨σ', K _ hX, by omega, by omega⟩
end LOOP
