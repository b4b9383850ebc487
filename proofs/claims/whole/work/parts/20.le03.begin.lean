/-! THE LAW'S START: the two states as they are made -/
section BEGIN
def C00 (b : Nat) : Cd := (fun _ _ => 0, fun _ _ => none, fun _ _ => 0, fun _ _ => none, fun _ => 0, fun _ => 0, [], b, 0)
theorem C00_W (b : Nat) : Wf (C00 b) := fun a h => by cases h
theorem cut_W {mo : Nat} {C : Cd} (W : Wf C) : Wf (cut mo C) := fun a h => W a (List.mem_filter.mp h).1
theorem cut_fp {mo : Nat} {C C' : Cd} (W : Wf C) (hz : csz C = mo) (f : Fp (fun _ _ x => x = mo) C C') : Fp (fun _ _ _ => False) C (cut mo C') := by
  refine ⟨f.1, f.2.1, cut_W f.wf, fun a ha => ?_, fun a ha => ?_⟩
  · obtain ⟨h1, h2, h3⟩ := f.2.2.2.1 a ha
    refine ⟨⟨fun h => h1.mp (List.mem_filter.mp h).1, fun h => List.mem_filter.mpr ⟨h1.mpr h, decide_eq_true (by omega)⟩⟩, h2, h3⟩
  · obtain ⟨h1, h2, h3, h4⟩ := f.2.2.2.2 a ha
    exact ⟨fun k _ => h1 k (by omega), fun k _ => h2 k (by omega), fun _ => h3 (by omega), fun _ => h4 (by omega)⟩
theorem made (b : Nat) : ∃ C1 C2, fX11_init b (cNew (C00 b) 14) = some ((), C1) ∧ csz C1 = b + 854 ∧ fX12_init (b + 854) (cNew C1 15) = some ((), C2) ∧ MaO (b + 854) C2 ∧ csz C2 = b + 911 ∧ csl C2 ≤ 380000 ∧
    RR b 0 (mI0 (b + 854) C2) (cNewA (cut (b + 854) C2) 108 1) ∧ isO (cNewA (cut (b + 854) C2) 108 1) (b + 911) 108 ∧ cn (cNewA (cut (b + 854) C2) 108 1) (b + 911) = 1 := by
  have W0 := Wf_N (C00_W b) 14
  obtain ⟨C1, e1, f1, s1, l1, o1, x1, r1, ⟨t1, t2, t3⟩, i1⟩ := X11_init_ (b := b) W0 rfl (isO_N1 (C00 b) 14)
  have W1 := f1.wf
  have W1' := Wf_N W1 15
  have z1 : csz (cNew C1 15) = b + 854 + 1 := by show csz C1 + 1 = _; omega
  have oM : isO (cNew C1 15) (b + 854) 15 := by rw [← s1]; exact isO_N1 C1 15
  obtain ⟨C2, e2, f2, s2, l2, m2⟩ := X12_init_ (mo := b + 854) W1' oM z1 (fun k => by rw [← s1]; exact cI_N1 C1 15 k)
  have fA : Fp (fun _ _ x => x = b + 854) C1 C2 := (Fp.N W1 15).tr f2
  have fB := cut_fp W1 s1 fA
  have Wc := fB.wf
  have fC : Fp (fun _ _ _ => False) C1 (cNewA (cut (b + 854) C2) 108 1) := fB.tr (Fp.A Wc 108 1)
  have zc : csz (cut (b + 854) C2) = b + 911 := s2
  have ls : csl (C00 b) = 0 := rfl
  have la : csl (cNew (C00 b) 14) ≤ 40 := by show 0 + _ ≤ _; decide
  have lb : csl (cNew C1 15) = csl C1 + 79 := rfl
  refine ⟨C1, C2, e1, s1, e2, m2, s2, by omega, ?_, ?_, ?_⟩
  · have no : ∀ q k x, ¬ (fun (_ _ _ : Nat) => False) q k x := fun _ _ _ z => z
    have z := W1 _ o1.1
    refine RR_start (mI0_z m2) fC.wf (by show b + 854 ≤ csz (cut (b + 854) C2) + 1; omega) (fC.ob W1 o1) (x1.fp W1 fC (fun _ _ _ _ _ z => z)) ?_ (t1.fp W1 fC (fun z => z) (fun z => z) (fun z => z) (fun z => z)) (t2.fp W1 fC (fun z => z) (fun z => z) (fun z => z) (fun z => z)) (t3.fp W1 fC (fun z => z) (fun z => z) (fun z => z) (fun z => z)) (fun k k1 k2 => (fC.fI z (fun z => z)).trans (i1 k k1 k2))
    obtain ⟨q1, q2, q3, q4, q5, q6⟩ := r1
    exact ⟨(fC.fR z (fun z => z)).trans q1, (fC.fR z (fun z => z)).trans q2, (fC.fR z (fun z => z)).trans q3, (fC.fR z (fun z => z)).trans q4, (fC.fR z (fun z => z)).trans q5, (fC.fR z (fun z => z)).trans q6⟩
  · rw [← zc]; exact isO_A1 _ 108 1
  · rw [← zc]; exact cn_A1 _ 108 1
end BEGIN
